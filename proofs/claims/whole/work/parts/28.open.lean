/-! open; better; tests -/
def opb (a b : Option Nat) (p : Nat) : Bool := match a with
  | none => false
  | some f => decide (f ≤ p) && (match b with
    | none => false
    | some l => decide (p ≤ l))
def sOpen (s : Nat → Nat) (al : Nat → Nat → Bool) (d : Nat → Nat) (p : Nat) : Nat → Nat := fb_ct (fun y => opb (firstP s al d y) (lastP s al d y) p)
def mxo (s : Nat → Nat) (al : Nat → Nat → Bool) (d : Nat → Nat) : Nat → Nat
  | 0 => 0
  | k + 1 => if mxo s al d k < sOpen s al d k 16 then sOpen s al d k 16 else mxo s al d k
theorem mxo_le (s : Nat → Nat) (al : Nat → Nat → Bool) (d : Nat → Nat) : ∀ k, mxo s al d k ≤ 16 := by
  intro k
  induction k with
  | zero => exact Nat.zero_le _
  | succ k ih =>
    unfold mxo
    by_cases c : mxo s al d k < sOpen s al d k 16
    · rw [if_pos c]; exact fb_ct_le _ _
    · rw [if_neg c]; exact ih
theorem fp_lt {s : Nat → Nat} (H : Hok s) {al : Nat → Nat → Bool} {d : Nat → Nat} {y p : Nat} (h : firstP s al d y = some p) : p < 12 := fstf_lt H h
theorem lp_lt {s : Nat → Nat} (H : Hok s) {al : Nat → Nat → Bool} {d : Nat → Nat} {y p : Nat} (h : lastP s al d y = some p) : p < 12 := lstf_lt H h
theorem m1_lt {p : Nat} (h : p < 2 ^ 31) : (-1 : Int32) < nI p := by
  rw [Int32.lt_iff_toInt_lt, nI_toInt h]
  have : (-1 : Int32).toInt = -1 := by decide
  omega
theorem s_openLines {s d : Nat → Nat} {al : Nat → Nat → Bool} {p : Nat} {c_this_firstPass : Nat → Int32} {c_this_lastPass : Nat → Int32} {post : Int32 → Unit → Prop} (H : Hok s) (hf : ∀ y, y < 16 → c_this_firstPass y = oI (firstP s al d y)) (hl : ∀ y, y < 16 → c_this_lastPass y = oI (lastP s al d y)) (hp : p < 2 ^ 30) (h : post (nI (sOpen s al d p 16)) ()) : wp_X1_openLines (nI p) c_this_firstPass c_this_lastPass post := by
  unfold wp_X1_openLines
  have key : ∀ (m k : Nat), k ≤ 16 → 16 - k < m → wq_X1_openLines_4 c_this_firstPass c_this_lastPass (nI p) post (fun e27 => post e27 ()) m (nI (sOpen s al d p k)) (nI k) := by
    intro m
    induction m with
    | zero => intro k g1 g2; omega
    | succ m ih =>
      intro k g1 g2
      unfold wq_X1_openLines_4
      rw [show (16 : Int32) = nI 16 from rfl, nI_leI (by omega) (by omega)]
      refine ⟨fun q => ?_, fun q => ?_⟩
      · have e : k = 16 := by omega
        subst e; exact h
      · have st := ih (k + 1) (by omega) (by omega)
        unfold sOpen at st
        rw [fb_ct_succ] at st
        refine ⟨vp_in_nI (by omega) (by omega), ?_⟩
        simp only [forall_eq]
        rw [nI_clamp (by omega), hf k (by omega), show (-1 : Int32) = -nI 1 from rfl, oI_none _ (fun x hx => by have := fp_lt H hx; omega)]
        unfold wq_X1_openLines_35
        simp only [forall_eq]
        rw [nI_clamp (by omega), hl k (by omega), show (1 : Int32) = nI 1 from rfl, show (0 : Int32) = nI 0 from rfl, nI_add, nI_add, nI_add, Nat.add_zero]
        cases hF : firstP s al d k with
        | none =>
          rw [hF] at st
          refine yes1 rfl (yes1 trivial ?_)
          rw [if_neg (by simp [opb])] at st
          exact st
        | some f =>
          have hf12 := fp_lt H hF
          rw [hF] at st
          refine no1 (by intro q; cases q) ⟨vp_in_nI (by omega) (by omega), ?_⟩
          show (nI p < nI f → _) ∧ (¬ nI p < nI f → _)
          rw [nI_ltI (by omega) (by omega)]
          by_cases c1 : p < f
          · refine yes1 c1 (yes1 trivial ?_)
            rw [if_neg (by simp [opb]; omega)] at st
            exact st
          · refine no1 c1 (no1 (by decide) ⟨vp_in_nI (by omega) (by omega), ?_⟩)
            cases hB : lastP s al d k with
            | none =>
              rw [hB] at st
              refine yes1 (m1_lt (by omega)) ?_
              rw [if_neg (by simp [opb])] at st
              exact st
            | some l =>
              have hl12 := lp_lt H hB
              rw [hB] at st
              show (nI l < nI p → _) ∧ (¬ nI l < nI p → _)
              rw [nI_ltI (by omega) (by omega)]
              by_cases c2 : l < p
              · refine yes1 c2 ?_
                rw [if_neg (by simp [opb]; omega)] at st
                exact st
              · refine no1 c2 ?_
                rw [if_pos (by simp [opb]; omega)] at st
                exact st
  exact ⟨17, key 17 0 (by omega) (by omega)⟩
theorem s_open {s d : Nat → Nat} {al : Nat → Nat → Bool} {c_this_told_head : Nat → Int32} {c_this_told_firstPass : Nat → Int32} {c_this_told_lastPass : Nat → Int32} {post : Int32 → Unit → Prop} (hh : Hd s c_this_told_head) (hf : ∀ y, y < 16 → ∃ b, FirstOf (hs s y) (stk s al d 16 y).1 b ∧ c_this_told_firstPass y = oI b) (hl : ∀ y, y < 16 → ∃ b, LastOf (hs s y) (stk s al d 16 y).1 b ∧ c_this_told_lastPass y = oI b) (h : post (nI (mxo s al d (s 3))) ()) : wp_X3_open c_this_told_head c_this_told_firstPass c_this_told_lastPass post := by
  have H := hh.1
  obtain ⟨a0, a1, a2, a3, a4, a5, a6, a7, a8⟩ := id H
  unfold wp_X3_open
  have key : ∀ (m k : Nat), k ≤ s 3 → s 3 - k < m → wq_X3_open_4 c_this_told_head c_this_told_firstPass c_this_told_lastPass post (fun e8 => post e8 ()) m (nI (mxo s al d k)) (nI k) := by
    intro m
    induction m with
    | zero => intro k g1 g2; omega
    | succ m ih =>
      intro k g1 g2
      unfold wq_X3_open_4
      rw [hh.at 3 (by omega) (by omega), nI_leI (by omega) (by omega)]
      refine ⟨fun q => ?_, fun q => ?_⟩
      · have e : k = s 3 := by omega
        subst e; exact h
      · have st := ih (k + 1) (by omega) (by omega)
        refine s_openLines H (fun y hy => first_at H hf hy) (fun y hy => last_at H hl hy) (by omega) ?_
        have u1 := mxo_le s al d k
        have u2 : sOpen s al d k 16 ≤ 16 := fb_ct_le _ _
        rw [forall_eq, forall_eq, q_max (by omega) (by omega), nI_1]
        exact st
  exact ⟨s 3 + 1, key (s 3 + 1) 0 (by omega) (by omega)⟩
theorem r_openOf {d s : Nat → Nat} {n : Nat} {ek ea en : Nat → Nat} {f_this_events : Int32} {f_this_notEvents : Int32} {f_this_deadNow : Int32} {f_this_allMissed : Int32} {f_this_allWanted : Int32} {f_this_allPrinted : Int32} {c_this_told : Nat → Int32} {c_this_head : Nat → Int32} {c_this_eventKind : Nat → Int32} {c_this_eventAt : Nat → Int32} {c_this_eventNozzle : Nat → Int32} {c_this_dots : Nat → Int32} {c_this_now : Nat → Int32} {c_this_hitMany : Nat → Int32} {c_this_hitPass : Nat → Int32} {c_this_hitNozzle : Nat → Int32} {c_this_hitPrints : Nat → Int32} {c_this_canMany : Nat → Int32} {c_this_printedBy : Nat → Int32} {c_this_missing : Nat → Int32} {c_this_prints : Nat → Int32} {c_this_gutter : Nat → Int32} {post : Int32 → (Int32 × Int32 × Int32 × Int32 × Int32 × (Nat → Int32) × (Nat → Int32) × (Nat → Int32) × (Nat → Int32) × (Nat → Int32) × (Nat → Int32) × (Nat → Int32) × (Nat → Int32) × (Nat → Int32) × (Nat → Int32) × (Nat → Int32)) → Prop} (I : RefI d s n ek ea en c_this_told c_this_head f_this_events c_this_eventKind c_this_eventAt c_this_eventNozzle) (h : ∀ u, post (nI (mxo s (al0 n ek ea en) d (s 3))) u) : wp_X4_openOf f_this_events f_this_notEvents f_this_deadNow f_this_allMissed f_this_allWanted f_this_allPrinted c_this_told c_this_head c_this_eventKind c_this_eventAt c_this_eventNozzle c_this_dots c_this_now c_this_hitMany c_this_hitPass c_this_hitNozzle c_this_hitPrints c_this_canMany c_this_printedBy c_this_missing c_this_prints c_this_gutter post := by
  have H := I.2.1.1
  obtain ⟨a0, a1, a2, a3, a4, a5, a6, a7, a8⟩ := id H
  unfold wp_X4_openOf
  refine r_runsTold I (fun aM aW aP dots now hm hP hN hR cM pB mi pt gt i1 i2 i3 i4 => ?_)
  have inn : ∀ (x1 : Int32) (p : Nat), p < 2 ^ 30 → ∀ (Ke : Int32 → Prop), Ke (nI (sOpen s (al0 n ek ea en) d p 16)) → ∀ (m k : Nat), k ≤ 16 → 16 - k < m → wq_X4_openOf_23 f_this_events c_this_told c_this_head c_this_eventKind c_this_eventAt c_this_eventNozzle x1 (nI p) 0 (-1) aM aW aP dots now hm hP hN hR cM pB mi pt gt post Ke m (nI (sOpen s (al0 n ek ea en) d p k)) (nI k) := by
    intro x1 p hp Ke hK m
    induction m with
    | zero => intro k g1 g2; omega
    | succ m ih =>
      intro k g1 g2
      unfold wq_X4_openOf_23
      rw [show (16 : Int32) = nI 16 from rfl, nI_leI (by omega) (by omega)]
      refine ⟨fun q => ?_, fun q => ?_⟩
      · have e : k = 16 := by omega
        subst e; exact hK
      · have st := ih (k + 1) (by omega) (by omega)
        unfold sOpen at st
        rw [fb_ct_succ] at st
        refine r_passNow (w := 0) H i4 (by omega) (by omega) ?_
        rw [if_pos rfl]
        simp only [forall_eq]
        rw [show (-1 : Int32) = -nI 1 from rfl, oI_none _ (fun x hx => by have := fp_lt H hx; omega)]
        rw [nI_1]
        have az : ∀ v, nI v + 0 = nI v := fun v => Int32.add_zero _
        rw [az]
        cases hF : firstP s (al0 n ek ea en) d k with
        | none =>
          rw [hF] at st
          refine yes1 rfl ?_
          rw [if_neg (by simp [opb])] at st
          exact st
        | some f =>
          have hf12 := fp_lt H hF
          rw [hF] at st
          refine no1 (by intro q; cases q) ?_
          show (nI p < nI f → _) ∧ (¬ nI p < nI f → _)
          rw [nI_ltI (by omega) (by omega)]
          by_cases c1 : p < f
          · refine yes1 c1 ?_
            rw [if_neg (by simp [opb]; omega)] at st
            exact st
          · refine no1 c1 (r_passNow (w := 1) H i4 (by omega) (by omega) ?_)
            rw [if_neg (by decide)]
            cases hB : lastP s (al0 n ek ea en) d k with
            | none =>
              rw [hB] at st
              refine yes1 (m1_lt (by omega)) ?_
              rw [if_neg (by simp [opb])] at st
              exact st
            | some l =>
              have hl12 := lp_lt H hB
              rw [hB] at st
              show (nI l < nI p → _) ∧ (¬ nI l < nI p → _)
              rw [nI_ltI (by omega) (by omega)]
              by_cases c2 : l < p
              · refine yes1 c2 ?_
                rw [if_neg (by simp [opb]; omega)] at st
                exact st
              · refine no1 c2 ?_
                rw [if_pos (by simp [opb]; omega)] at st
                rw [nI_1]
                exact st
  have key : ∀ (Ke : Int32 → Prop), Ke (nI (mxo s (al0 n ek ea en) d (s 3))) → ∀ (m k : Nat), k ≤ s 3 → s 3 - k < m → wq_X4_openOf_8 f_this_events c_this_told c_this_head c_this_eventKind c_this_eventAt c_this_eventNozzle 0 (-1) aM aW aP dots now hm hP hN hR cM pB mi pt gt post Ke m (nI (mxo s (al0 n ek ea en) d k)) (nI k) := by
    intro Ke hK m
    induction m with
    | zero => intro k g1 g2; omega
    | succ m ih =>
      intro k g1 g2
      unfold wq_X4_openOf_8
      rw [i2.at 3 (by omega) (by omega), nI_leI (by omega) (by omega)]
      refine ⟨fun q => ?_, fun q => ?_⟩
      · have e : k = s 3 := by omega
        subst e; exact hK
      · have st := ih (k + 1) (by omega) (by omega)
        refine ⟨17, inn _ k (by omega) _ ?_ 17 0 (by omega) (by omega)⟩
        have u1 := mxo_le s (al0 n ek ea en) d k
        have u2 : sOpen s (al0 n ek ea en) d k 16 ≤ 16 := fb_ct_le _ _
        rw [forall_eq, forall_eq, nI_leI (by omega) (by omega), nI_1]
        unfold mxo at st
        by_cases c : sOpen s (al0 n ek ea en) d k 16 ≤ mxo s (al0 n ek ea en) d k
        · rw [if_neg (by omega)] at st; exact yes1 c st
        · rw [if_pos (by omega)] at st; exact no1 c st
  exact ⟨s 3 + 1, key _ (h _) (s 3 + 1) 0 (by omega) (by omega)⟩
theorem r_open {d s : Nat → Nat} {n : Nat} {ek ea en : Nat → Nat} {f_this_events : Int32} {f_this_notEvents : Int32} {f_this_deadNow : Int32} {f_this_allMissed : Int32} {f_this_allWanted : Int32} {f_this_allPrinted : Int32} {c_this_told : Nat → Int32} {c_this_head : Nat → Int32} {c_this_eventKind : Nat → Int32} {c_this_eventAt : Nat → Int32} {c_this_eventNozzle : Nat → Int32} {c_this_dots : Nat → Int32} {c_this_now : Nat → Int32} {c_this_hitMany : Nat → Int32} {c_this_hitPass : Nat → Int32} {c_this_hitNozzle : Nat → Int32} {c_this_hitPrints : Nat → Int32} {c_this_canMany : Nat → Int32} {c_this_printedBy : Nat → Int32} {c_this_missing : Nat → Int32} {c_this_prints : Nat → Int32} {c_this_gutter : Nat → Int32} {post : Int32 → (Int32 × Int32 × Int32 × Int32 × Int32 × (Nat → Int32) × (Nat → Int32) × (Nat → Int32) × (Nat → Int32) × (Nat → Int32) × (Nat → Int32) × (Nat → Int32) × (Nat → Int32) × (Nat → Int32) × (Nat → Int32) × (Nat → Int32)) → Prop} (I : RefI d s n ek ea en c_this_told c_this_head f_this_events c_this_eventKind c_this_eventAt c_this_eventNozzle) (h : ∀ u, post (nI (mxo s (al0 n ek ea en) d (s 3))) u) : wp_X4_open f_this_events f_this_notEvents f_this_deadNow f_this_allMissed f_this_allWanted f_this_allPrinted c_this_told c_this_head c_this_eventKind c_this_eventAt c_this_eventNozzle c_this_dots c_this_now c_this_hitMany c_this_hitPass c_this_hitNozzle c_this_hitPrints c_this_canMany c_this_printedBy c_this_missing c_this_prints c_this_gutter post := r_openOf I (fun u => h _)
