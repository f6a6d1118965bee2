/-! questions of a line, of a nozzle in a pass -/
def aHits (s : Nat → Nat) (y : Nat) : Int32 := nI (hs s y).length
theorem s_hits {s : Nat → Nat} {x1 : Int32} {c_this_told_hitCount : Nat → Int32} {post : Int32 → Unit → Prop} (hp : CntOk s (prs (s 0) (s 3)) c_this_told_hitCount) (h : post (ans_in ((0 : Int32) ≤ x1 ∧ x1 ≤ 15) (aHits s x1.toNatClampNeg)) ()) : wp_X3_hits x1 c_this_told_hitCount post := by
  unfold wp_X3_hits
  by_cases c : ((0 : Int32) ≤ x1 ∧ x1 ≤ 15)
  · rw [ans_in, if_pos c] at h
    obtain ⟨y, hy, e⟩ := (q_rng (n := 15) (by decide)).mp c
    subst e
    rw [nI_clamp (by omega)] at h
    refine s_lineT c (no1 one0 ⟨vp_in_nI (by omega) (by omega), ?_⟩)
    rw [forall_eq, nI_clamp (by omega), hp y (by omega)]; exact h
  · rw [ans_in, if_neg c] at h
    exact s_lineF c (yes1 rfl h)
theorem r_hitsOf {d s : Nat → Nat} {n : Nat} {ek ea en : Nat → Nat} {y : Nat} {f_this_events : Int32} {f_this_notEvents : Int32} {f_this_deadNow : Int32} {f_this_allMissed : Int32} {f_this_allWanted : Int32} {f_this_allPrinted : Int32} {c_this_told : Nat → Int32} {c_this_head : Nat → Int32} {c_this_eventKind : Nat → Int32} {c_this_eventAt : Nat → Int32} {c_this_eventNozzle : Nat → Int32} {c_this_dots : Nat → Int32} {c_this_now : Nat → Int32} {c_this_hitMany : Nat → Int32} {c_this_hitPass : Nat → Int32} {c_this_hitNozzle : Nat → Int32} {c_this_hitPrints : Nat → Int32} {c_this_canMany : Nat → Int32} {c_this_printedBy : Nat → Int32} {c_this_missing : Nat → Int32} {c_this_prints : Nat → Int32} {c_this_gutter : Nat → Int32} {post : Int32 → (Int32 × Int32 × Int32 × Int32 × Int32 × (Nat → Int32) × (Nat → Int32) × (Nat → Int32) × (Nat → Int32) × (Nat → Int32) × (Nat → Int32) × (Nat → Int32) × (Nat → Int32) × (Nat → Int32) × (Nat → Int32) × (Nat → Int32)) → Prop} (I : RefI d s n ek ea en c_this_told c_this_head f_this_events c_this_eventKind c_this_eventAt c_this_eventNozzle) (hy : y < 16) (h : ∀ u, post (aHits s y) u) : wp_X4_hitsOf (nI y) f_this_events f_this_notEvents f_this_deadNow f_this_allMissed f_this_allWanted f_this_allPrinted c_this_told c_this_head c_this_eventKind c_this_eventAt c_this_eventNozzle c_this_dots c_this_now c_this_hitMany c_this_hitPass c_this_hitNozzle c_this_hitPrints c_this_canMany c_this_printedBy c_this_missing c_this_prints c_this_gutter post := by
  unfold wp_X4_hitsOf
  refine r_runsTold I (fun aM aW aP dots now hm hP hN hR cM pB mi pt gt i1 i2 i3 i4 => ⟨vp_in_nI (by omega) (by omega), ?_⟩)
  dsimp only
  rw [nI_clamp (by omega), show hm y = _ from i4.1.cnt hy]; exact h _
theorem r_hits {d s : Nat → Nat} {n : Nat} {ek ea en : Nat → Nat} {x1 : Int32} {f_this_events : Int32} {f_this_notEvents : Int32} {f_this_deadNow : Int32} {f_this_allMissed : Int32} {f_this_allWanted : Int32} {f_this_allPrinted : Int32} {c_this_told : Nat → Int32} {c_this_head : Nat → Int32} {c_this_eventKind : Nat → Int32} {c_this_eventAt : Nat → Int32} {c_this_eventNozzle : Nat → Int32} {c_this_dots : Nat → Int32} {c_this_now : Nat → Int32} {c_this_hitMany : Nat → Int32} {c_this_hitPass : Nat → Int32} {c_this_hitNozzle : Nat → Int32} {c_this_hitPrints : Nat → Int32} {c_this_canMany : Nat → Int32} {c_this_printedBy : Nat → Int32} {c_this_missing : Nat → Int32} {c_this_prints : Nat → Int32} {c_this_gutter : Nat → Int32} {post : Int32 → (Int32 × Int32 × Int32 × Int32 × Int32 × (Nat → Int32) × (Nat → Int32) × (Nat → Int32) × (Nat → Int32) × (Nat → Int32) × (Nat → Int32) × (Nat → Int32) × (Nat → Int32) × (Nat → Int32) × (Nat → Int32) × (Nat → Int32)) → Prop} (I : RefI d s n ek ea en c_this_told c_this_head f_this_events c_this_eventKind c_this_eventAt c_this_eventNozzle) (h : ∀ u, post (ans_in ((0 : Int32) ≤ x1 ∧ x1 ≤ 15) (aHits s x1.toNatClampNeg)) u) : wp_X4_hits x1 f_this_events f_this_notEvents f_this_deadNow f_this_allMissed f_this_allWanted f_this_allPrinted c_this_told c_this_head c_this_eventKind c_this_eventAt c_this_eventNozzle c_this_dots c_this_now c_this_hitMany c_this_hitPass c_this_hitNozzle c_this_hitPrints c_this_canMany c_this_printedBy c_this_missing c_this_prints c_this_gutter post := by
  unfold wp_X4_hits
  by_cases c : ((0 : Int32) ≤ x1 ∧ x1 ≤ 15)
  · rw [ans_in, if_pos c] at h
    obtain ⟨y, hy, e⟩ := (q_rng (n := 15) (by decide)).mp c
    subst e
    rw [nI_clamp (by omega)] at h
    exact r_lineT c (no1 one0 (r_hitsOf I (by omega) (fun u => h _)))
  · rw [ans_in, if_neg c] at h
    exact r_lineF c (yes1 rfl (h _))
/-- hit -/
def aHit (s : Nat → Nat) (y i w : Nat) : Int32 := match (hs s y)[i]? with
  | none => -1
  | some q => if w = 0 then nI q.1 else nI q.2
theorem s_hit {s : Nat → Nat} {x1 : Int32} {x2 : Int32} {x3 : Int32} {c_this_told_hitCount : Nat → Int32} {c_this_told_hitPlace : Nat → Int32} {post : Int32 → Unit → Prop} (H : Hok s) (hH : ClsH s c_this_told_hitCount c_this_told_hitPlace) (h : post (ans_in (((0 : Int32) ≤ x1 ∧ x1 ≤ 15) ∧ ((0 : Int32) ≤ x2 ∧ x2 ≤ 11) ∧ ((0 : Int32) ≤ x3 ∧ x3 ≤ 1)) (aHit s x1.toNatClampNeg x2.toNatClampNeg x3.toNatClampNeg)) ()) : wp_X3_hit x1 x2 x3 c_this_told_hitCount c_this_told_hitPlace post := by
  unfold wp_X3_hit
  by_cases c1 : (0 : Int32) ≤ x1 ∧ x1 ≤ 15
  · refine s_lineT c1 (no1 one0 ?_)
    by_cases c2 : (0 : Int32) ≤ x2 ∧ x2 ≤ 11
    · refine s_withinT c2 (no1 one0 ?_)
      by_cases c3 : (0 : Int32) ≤ x3 ∧ x3 ≤ 1
      · refine s_withinT c3 (no2 one0 ?_)
        rw [ans_in, if_pos ⟨c1, c2, c3⟩] at h
        obtain ⟨y, hy, e⟩ := (q_rng (n := 15) (by decide)).mp c1
        subst e
        obtain ⟨i, hi, e⟩ := (q_rng (n := 11) (by decide)).mp c2
        subst e
        obtain ⟨w, hw, e⟩ := (q_rng (n := 1) (by decide)).mp c3
        subst e
        rw [nI_clamp (by omega), nI_clamp (by omega), nI_clamp (by omega)] at h
        have h12 := hs_len12 H y
        refine ⟨vp_in_nI (by omega) (by omega), ?_⟩
        rw [nI_clamp (by omega), hH.cnt (by omega), show (0 : Int32) = nI 0 from rfl]
        simp (disch := omega) only [nI_ltI, nI_eq]
        unfold aHit at h
        by_cases q : i < (hs s y).length
        · refine yes1 q ?_
          obtain ⟨r, hr⟩ := hs_get (s := s) (y := y) (i := i) q
          rw [hr] at h
          by_cases w0 : w = 0
          · refine yes2 w0 (s_pass H hH (by omega) hr ?_)
            simp only [if_pos w0] at h; exact h
          · refine no2 w0 (s_nozzle H hH (by omega) hr ?_)
            simp only [if_neg w0] at h; exact h
        · refine no1 q ?_
          rw [List.getElem?_eq_none (by omega)] at h
          exact h
      · rw [ans_in, if_neg (fun q => c3 q.2.2)] at h
        exact s_withinF c3 (yes2 rfl h)
    · rw [ans_in, if_neg (fun q => c2 q.2.1)] at h
      exact s_withinF c2 (yes1 rfl h)
  · rw [ans_in, if_neg (fun q => c1 q.1)] at h
    exact s_lineF c1 (yes1 rfl h)
theorem r_hitOf {d s : Nat → Nat} {n : Nat} {ek ea en : Nat → Nat} {y i w : Nat} {f_this_events : Int32} {f_this_notEvents : Int32} {f_this_deadNow : Int32} {f_this_allMissed : Int32} {f_this_allWanted : Int32} {f_this_allPrinted : Int32} {c_this_told : Nat → Int32} {c_this_head : Nat → Int32} {c_this_eventKind : Nat → Int32} {c_this_eventAt : Nat → Int32} {c_this_eventNozzle : Nat → Int32} {c_this_dots : Nat → Int32} {c_this_now : Nat → Int32} {c_this_hitMany : Nat → Int32} {c_this_hitPass : Nat → Int32} {c_this_hitNozzle : Nat → Int32} {c_this_hitPrints : Nat → Int32} {c_this_canMany : Nat → Int32} {c_this_printedBy : Nat → Int32} {c_this_missing : Nat → Int32} {c_this_prints : Nat → Int32} {c_this_gutter : Nat → Int32} {post : Int32 → (Int32 × Int32 × Int32 × Int32 × Int32 × (Nat → Int32) × (Nat → Int32) × (Nat → Int32) × (Nat → Int32) × (Nat → Int32) × (Nat → Int32) × (Nat → Int32) × (Nat → Int32) × (Nat → Int32) × (Nat → Int32) × (Nat → Int32)) → Prop} (I : RefI d s n ek ea en c_this_told c_this_head f_this_events c_this_eventKind c_this_eventAt c_this_eventNozzle) (hy : y < 16) (hi : i < 12) (hw : w ≤ 1) (h : ∀ u, post (aHit s y i w) u) : wp_X4_hitOf (nI y) (nI i) (nI w) f_this_events f_this_notEvents f_this_deadNow f_this_allMissed f_this_allWanted f_this_allPrinted c_this_told c_this_head c_this_eventKind c_this_eventAt c_this_eventNozzle c_this_dots c_this_now c_this_hitMany c_this_hitPass c_this_hitNozzle c_this_hitPrints c_this_canMany c_this_printedBy c_this_missing c_this_prints c_this_gutter post := by
  have H := I.2.1.1
  unfold wp_X4_hitOf
  refine r_runsTold I (fun aM aW aP dots now hm hP hN hR cM pB mi pt gt i1 i2 i3 i4 => ⟨vp_in_nI (by omega) (by omega), ?_⟩)
  have h12 := hs_len12 H y
  dsimp only
  rw [nI_clamp (by omega), show hm y = _ from i4.1.cnt hy, show (0 : Int32) = nI 0 from rfl]
  rw [nI_ltI (by omega) (by omega), nI_eq (by omega) (by omega)]
  unfold aHit at h
  by_cases q : i < (hs s y).length
  · refine yes1 q ?_
    obtain ⟨r, hr⟩ := hs_get (s := s) (y := y) (i := i) q
    rw [hr] at h
    have e1 := i4.1.ps hy hr
    have e2 := i4.1.nz hy hr
    simp only [forall_eq]
    rw [show (12 : Int32) = nI 12 from rfl, pk_mul, nI_add, nI_clamp (by omega)]
    by_cases w0 : w = 0
    · refine yes2 w0 ⟨vp_in_nI (by omega) (by omega), ?_⟩
      simp only [if_pos w0] at h
      rw [show hP (12 * y + i) = _ from e1]; exact h _
    · refine no2 w0 ⟨vp_in_nI (by omega) (by omega), ?_⟩
      simp only [if_neg w0] at h
      rw [show hN (12 * y + i) = _ from e2]; exact h _
  · refine no1 q ?_
    rw [List.getElem?_eq_none (by omega)] at h
    exact h _
theorem r_hit {d s : Nat → Nat} {n : Nat} {ek ea en : Nat → Nat} {x1 : Int32} {x2 : Int32} {x3 : Int32} {f_this_events : Int32} {f_this_notEvents : Int32} {f_this_deadNow : Int32} {f_this_allMissed : Int32} {f_this_allWanted : Int32} {f_this_allPrinted : Int32} {c_this_told : Nat → Int32} {c_this_head : Nat → Int32} {c_this_eventKind : Nat → Int32} {c_this_eventAt : Nat → Int32} {c_this_eventNozzle : Nat → Int32} {c_this_dots : Nat → Int32} {c_this_now : Nat → Int32} {c_this_hitMany : Nat → Int32} {c_this_hitPass : Nat → Int32} {c_this_hitNozzle : Nat → Int32} {c_this_hitPrints : Nat → Int32} {c_this_canMany : Nat → Int32} {c_this_printedBy : Nat → Int32} {c_this_missing : Nat → Int32} {c_this_prints : Nat → Int32} {c_this_gutter : Nat → Int32} {post : Int32 → (Int32 × Int32 × Int32 × Int32 × Int32 × (Nat → Int32) × (Nat → Int32) × (Nat → Int32) × (Nat → Int32) × (Nat → Int32) × (Nat → Int32) × (Nat → Int32) × (Nat → Int32) × (Nat → Int32) × (Nat → Int32) × (Nat → Int32)) → Prop} (I : RefI d s n ek ea en c_this_told c_this_head f_this_events c_this_eventKind c_this_eventAt c_this_eventNozzle) (h : ∀ u, post (ans_in (((0 : Int32) ≤ x1 ∧ x1 ≤ 15) ∧ ((0 : Int32) ≤ x2 ∧ x2 ≤ 11) ∧ ((0 : Int32) ≤ x3 ∧ x3 ≤ 1)) (aHit s x1.toNatClampNeg x2.toNatClampNeg x3.toNatClampNeg)) u) : wp_X4_hit x1 x2 x3 f_this_events f_this_notEvents f_this_deadNow f_this_allMissed f_this_allWanted f_this_allPrinted c_this_told c_this_head c_this_eventKind c_this_eventAt c_this_eventNozzle c_this_dots c_this_now c_this_hitMany c_this_hitPass c_this_hitNozzle c_this_hitPrints c_this_canMany c_this_printedBy c_this_missing c_this_prints c_this_gutter post := by
  unfold wp_X4_hit
  by_cases c1 : (0 : Int32) ≤ x1 ∧ x1 ≤ 15
  · refine r_lineT c1 (no1 one0 ?_)
    by_cases c2 : (0 : Int32) ≤ x2 ∧ x2 ≤ 11
    · refine r_inT c2 (no1 one0 ?_)
      by_cases c3 : (0 : Int32) ≤ x3 ∧ x3 ≤ 1
      · refine r_twoT c3 (no1 one0 ?_)
        rw [ans_in, if_pos ⟨c1, c2, c3⟩] at h
        obtain ⟨y, hy, e⟩ := (q_rng (n := 15) (by decide)).mp c1
        subst e
        obtain ⟨i, hi, e⟩ := (q_rng (n := 11) (by decide)).mp c2
        subst e
        obtain ⟨w, hw, e⟩ := (q_rng (n := 1) (by decide)).mp c3
        subst e
        rw [nI_clamp (by omega), nI_clamp (by omega), nI_clamp (by omega)] at h
        exact r_hitOf I (by omega) (by omega) hw (fun u => h _)
      · rw [ans_in, if_neg (fun q => c3 q.2.2)] at h
        exact r_twoF c3 (yes1 rfl (h _))
    · rw [ans_in, if_neg (fun q => c2 q.2.1)] at h
      exact r_inF c2 (yes1 rfl (h _))
  · rw [ans_in, if_neg (fun q => c1 q.1)] at h
    exact r_lineF c1 (yes1 rfl (h _))
/-- by -/
def aBy (s : Nat → Nat) (al : Nat → Nat → Bool) (d : Nat → Nat) (y x w : Nat) : Int32 := if w = 0 then oI ((fin s al (d y) y).2.1 x) else oI (wnt s (d y) y x)
theorem s_by {d s : Nat → Nat} {al : Nat → Nat → Bool} {hp : Nat → Int32} {x1 : Int32} {x2 : Int32} {x3 : Int32} {c_this_told_picture : Nat → Int32} {c_this_told_head : Nat → Int32} {c_this_told_hitCount : Nat → Int32} {c_this_told_printingHit : Nat → Int32} {post : Int32 → Unit → Prop} (hh : Hd s c_this_told_head) (hpic : PicOk d c_this_told_picture) (hH : ClsH s c_this_told_hitCount hp) (hph : ∀ y, y < 16 → ∀ x, x < 8 → c_this_told_printingHit (8 * y + x) = oI ((stk s al d 16 y).2.1 x)) (h : post (ans_in (((0 : Int32) ≤ x1 ∧ x1 ≤ 15) ∧ ((0 : Int32) ≤ x2 ∧ x2 ≤ 7) ∧ ((0 : Int32) ≤ x3 ∧ x3 ≤ 1)) (aBy s al d x1.toNatClampNeg x2.toNatClampNeg x3.toNatClampNeg)) ()) : wp_X3_by x1 x2 x3 c_this_told_picture c_this_told_head c_this_told_hitCount c_this_told_printingHit post := by
  unfold wp_X3_by
  by_cases c1 : (0 : Int32) ≤ x1 ∧ x1 ≤ 15
  · refine s_lineT c1 (no1 one0 ?_)
    by_cases c2 : (0 : Int32) ≤ x2 ∧ x2 ≤ 7
    · refine s_withinT c2 (no1 one0 ?_)
      by_cases c3 : (0 : Int32) ≤ x3 ∧ x3 ≤ 1
      · refine s_withinT c3 (no2 one0 ?_)
        rw [ans_in, if_pos ⟨c1, c2, c3⟩] at h
        obtain ⟨y, hy, e⟩ := (q_rng (n := 15) (by decide)).mp c1
        subst e
        obtain ⟨x, hx, e⟩ := (q_rng (n := 7) (by decide)).mp c2
        subst e
        obtain ⟨w, hw, e⟩ := (q_rng (n := 1) (by decide)).mp c3
        subst e
        rw [nI_clamp (by omega), nI_clamp (by omega), nI_clamp (by omega)] at h
        unfold aBy at h
        rw [show (0 : Int32) = nI 0 from rfl, nI_eq (by omega) (by omega)]
        by_cases w0 : w = 0
        · refine yes2 w0 ?_
          rw [if_pos w0] at h
          rw [forall_eq, forall_eq, show (8 : Int32) = nI 8 from rfl, pk_mul, nI_add]
          refine ⟨vp_in_nI (by omega) (by omega), ?_⟩
          have e := hph y (by omega) x (by omega)
          rw [stk_at (by omega), Nat.mul_comm] at e
          rw [forall_eq, nI_clamp (by omega), e]; exact h
        · rw [if_neg w0] at h
          exact no2 w0 (s_wantedHit hh hH (by omega) (by omega) (hpic y (by omega)).1 (hpic y (by omega)).2 h)
      · rw [ans_in, if_neg (fun q => c3 q.2.2)] at h
        exact s_withinF c3 (yes2 rfl h)
    · rw [ans_in, if_neg (fun q => c2 q.2.1)] at h
      exact s_withinF c2 (yes1 rfl h)
  · rw [ans_in, if_neg (fun q => c1 q.1)] at h
    exact s_lineF c1 (yes1 rfl h)
theorem r_byOf {d s : Nat → Nat} {n : Nat} {ek ea en : Nat → Nat} {y x w : Nat} {f_this_events : Int32} {f_this_notEvents : Int32} {f_this_deadNow : Int32} {f_this_allMissed : Int32} {f_this_allWanted : Int32} {f_this_allPrinted : Int32} {c_this_told : Nat → Int32} {c_this_head : Nat → Int32} {c_this_eventKind : Nat → Int32} {c_this_eventAt : Nat → Int32} {c_this_eventNozzle : Nat → Int32} {c_this_dots : Nat → Int32} {c_this_now : Nat → Int32} {c_this_hitMany : Nat → Int32} {c_this_hitPass : Nat → Int32} {c_this_hitNozzle : Nat → Int32} {c_this_hitPrints : Nat → Int32} {c_this_canMany : Nat → Int32} {c_this_printedBy : Nat → Int32} {c_this_missing : Nat → Int32} {c_this_prints : Nat → Int32} {c_this_gutter : Nat → Int32} {post : Int32 → (Int32 × Int32 × Int32 × Int32 × Int32 × (Nat → Int32) × (Nat → Int32) × (Nat → Int32) × (Nat → Int32) × (Nat → Int32) × (Nat → Int32) × (Nat → Int32) × (Nat → Int32) × (Nat → Int32) × (Nat → Int32) × (Nat → Int32)) → Prop} (I : RefI d s n ek ea en c_this_told c_this_head f_this_events c_this_eventKind c_this_eventAt c_this_eventNozzle) (hy : y < 16) (hx : x < 8) (hw : w ≤ 1) (h : ∀ u, post (aBy s (al0 n ek ea en) d y x w) u) : wp_X4_byOf (nI y) (nI x) (nI w) f_this_events f_this_notEvents f_this_deadNow f_this_allMissed f_this_allWanted f_this_allPrinted c_this_told c_this_head c_this_eventKind c_this_eventAt c_this_eventNozzle c_this_dots c_this_now c_this_hitMany c_this_hitPass c_this_hitNozzle c_this_hitPrints c_this_canMany c_this_printedBy c_this_missing c_this_prints c_this_gutter post := by
  unfold wp_X4_byOf
  refine r_runsTold I (fun aM aW aP dots now hm hP hN hR cM pB mi pt gt i1 i2 i3 i4 => ?_)
  dsimp only
  rw [show (0 : Int32) = nI 0 from rfl, nI_eq (by omega) (by omega)]
  unfold aBy at h
  by_cases w0 : w = 0
  · refine yes2 w0 ?_
    simp only [if_pos w0] at h
    rw [forall_eq, forall_eq, show (8 : Int32) = nI 8 from rfl, pk_mul, nI_add]
    refine ⟨vp_in_nI (by omega) (by omega), ?_⟩
    have e := i4.2.1.2.2.2.2.1 y hy x hx
    rw [stk_at hy] at e
    rw [forall_eq, nI_clamp (by omega), show pB (8 * y + x) = _ from e]; exact h _
  · simp only [if_neg w0] at h
    exact no2 w0 (r_wants i2 i4.1 hy hx (i1 y hy).1 (i1 y hy).2 (h _))
theorem r_by {d s : Nat → Nat} {n : Nat} {ek ea en : Nat → Nat} {x1 : Int32} {x2 : Int32} {x3 : Int32} {f_this_events : Int32} {f_this_notEvents : Int32} {f_this_deadNow : Int32} {f_this_allMissed : Int32} {f_this_allWanted : Int32} {f_this_allPrinted : Int32} {c_this_told : Nat → Int32} {c_this_head : Nat → Int32} {c_this_eventKind : Nat → Int32} {c_this_eventAt : Nat → Int32} {c_this_eventNozzle : Nat → Int32} {c_this_dots : Nat → Int32} {c_this_now : Nat → Int32} {c_this_hitMany : Nat → Int32} {c_this_hitPass : Nat → Int32} {c_this_hitNozzle : Nat → Int32} {c_this_hitPrints : Nat → Int32} {c_this_canMany : Nat → Int32} {c_this_printedBy : Nat → Int32} {c_this_missing : Nat → Int32} {c_this_prints : Nat → Int32} {c_this_gutter : Nat → Int32} {post : Int32 → (Int32 × Int32 × Int32 × Int32 × Int32 × (Nat → Int32) × (Nat → Int32) × (Nat → Int32) × (Nat → Int32) × (Nat → Int32) × (Nat → Int32) × (Nat → Int32) × (Nat → Int32) × (Nat → Int32) × (Nat → Int32) × (Nat → Int32)) → Prop} (I : RefI d s n ek ea en c_this_told c_this_head f_this_events c_this_eventKind c_this_eventAt c_this_eventNozzle) (h : ∀ u, post (ans_in (((0 : Int32) ≤ x1 ∧ x1 ≤ 15) ∧ ((0 : Int32) ≤ x2 ∧ x2 ≤ 7) ∧ ((0 : Int32) ≤ x3 ∧ x3 ≤ 1)) (aBy s (al0 n ek ea en) d x1.toNatClampNeg x2.toNatClampNeg x3.toNatClampNeg)) u) : wp_X4_by x1 x2 x3 f_this_events f_this_notEvents f_this_deadNow f_this_allMissed f_this_allWanted f_this_allPrinted c_this_told c_this_head c_this_eventKind c_this_eventAt c_this_eventNozzle c_this_dots c_this_now c_this_hitMany c_this_hitPass c_this_hitNozzle c_this_hitPrints c_this_canMany c_this_printedBy c_this_missing c_this_prints c_this_gutter post := by
  unfold wp_X4_by
  by_cases c1 : (0 : Int32) ≤ x1 ∧ x1 ≤ 15
  · refine r_lineT c1 (no1 one0 ?_)
    by_cases c2 : (0 : Int32) ≤ x2 ∧ x2 ≤ 7
    · refine r_colT c2 (no1 one0 ?_)
      by_cases c3 : (0 : Int32) ≤ x3 ∧ x3 ≤ 1
      · refine r_twoT c3 (no1 one0 ?_)
        rw [ans_in, if_pos ⟨c1, c2, c3⟩] at h
        obtain ⟨y, hy, e⟩ := (q_rng (n := 15) (by decide)).mp c1
        subst e
        obtain ⟨x, hx, e⟩ := (q_rng (n := 7) (by decide)).mp c2
        subst e
        obtain ⟨w, hw, e⟩ := (q_rng (n := 1) (by decide)).mp c3
        subst e
        rw [nI_clamp (by omega), nI_clamp (by omega), nI_clamp (by omega)] at h
        exact r_byOf I (by omega) (by omega) hw (fun u => h _)
      · rw [ans_in, if_neg (fun q => c3 q.2.2)] at h
        exact r_twoF c3 (yes1 rfl (h _))
    · rw [ans_in, if_neg (fun q => c2 q.2.1)] at h
      exact r_colF c2 (yes1 rfl (h _))
  · rw [ans_in, if_neg (fun q => c1 q.1)] at h
    exact r_lineF c1 (yes1 rfl (h _))
/-- missed, done -/
def aMissed (s : Nat → Nat) (al : Nat → Nat → Bool) (d : Nat → Nat) (y : Nat) : Int32 := nI (fin s al (d y) y).2.2.1
def aDone (s : Nat → Nat) (al : Nat → Nat → Bool) (d : Nat → Nat) (y : Nat) : Int32 := oI (lastP s al d y)
theorem s_missed {s d : Nat → Nat} {al : Nat → Nat → Bool} {x1 : Int32} {c_this_told_missedDots : Nat → Int32} {post : Int32 → Unit → Prop} (hp : ∀ y, y < 16 → c_this_told_missedDots y = nI (stk s al d 16 y).2.2.1) (h : post (ans_in ((0 : Int32) ≤ x1 ∧ x1 ≤ 15) (aMissed s al d x1.toNatClampNeg)) ()) : wp_X3_missed x1 c_this_told_missedDots post := by
  unfold wp_X3_missed
  by_cases c : ((0 : Int32) ≤ x1 ∧ x1 ≤ 15)
  · rw [ans_in, if_pos c] at h
    obtain ⟨y, hy, e⟩ := (q_rng (n := 15) (by decide)).mp c
    subst e
    rw [nI_clamp (by omega)] at h
    refine s_lineT c (no1 one0 ⟨vp_in_nI (by omega) (by omega), ?_⟩)
    rw [forall_eq, nI_clamp (by omega), hp y (by omega), stk_at (by omega)]; exact h
  · rw [ans_in, if_neg c] at h
    exact s_lineF c (yes1 rfl h)
theorem r_missedOf {d s : Nat → Nat} {n : Nat} {ek ea en : Nat → Nat} {y : Nat} {f_this_events : Int32} {f_this_notEvents : Int32} {f_this_deadNow : Int32} {f_this_allMissed : Int32} {f_this_allWanted : Int32} {f_this_allPrinted : Int32} {c_this_told : Nat → Int32} {c_this_head : Nat → Int32} {c_this_eventKind : Nat → Int32} {c_this_eventAt : Nat → Int32} {c_this_eventNozzle : Nat → Int32} {c_this_dots : Nat → Int32} {c_this_now : Nat → Int32} {c_this_hitMany : Nat → Int32} {c_this_hitPass : Nat → Int32} {c_this_hitNozzle : Nat → Int32} {c_this_hitPrints : Nat → Int32} {c_this_canMany : Nat → Int32} {c_this_printedBy : Nat → Int32} {c_this_missing : Nat → Int32} {c_this_prints : Nat → Int32} {c_this_gutter : Nat → Int32} {post : Int32 → (Int32 × Int32 × Int32 × Int32 × Int32 × (Nat → Int32) × (Nat → Int32) × (Nat → Int32) × (Nat → Int32) × (Nat → Int32) × (Nat → Int32) × (Nat → Int32) × (Nat → Int32) × (Nat → Int32) × (Nat → Int32) × (Nat → Int32)) → Prop} (I : RefI d s n ek ea en c_this_told c_this_head f_this_events c_this_eventKind c_this_eventAt c_this_eventNozzle) (hy : y < 16) (h : ∀ u, post (aMissed s (al0 n ek ea en) d y) u) : wp_X4_missedOf (nI y) f_this_events f_this_notEvents f_this_deadNow f_this_allMissed f_this_allWanted f_this_allPrinted c_this_told c_this_head c_this_eventKind c_this_eventAt c_this_eventNozzle c_this_dots c_this_now c_this_hitMany c_this_hitPass c_this_hitNozzle c_this_hitPrints c_this_canMany c_this_printedBy c_this_missing c_this_prints c_this_gutter post := by
  unfold wp_X4_missedOf
  refine r_runsTold I (fun aM aW aP dots now hm hP hN hR cM pB mi pt gt i1 i2 i3 i4 => ⟨vp_in_nI (by omega) (by omega), ?_⟩)
  have e := i4.2.1.2.2.2.2.2.1 y hy
  rw [stk_at hy] at e
  dsimp only
  rw [nI_clamp (by omega), show mi y = _ from e]; exact h _
theorem r_missed {d s : Nat → Nat} {n : Nat} {ek ea en : Nat → Nat} {x1 : Int32} {f_this_events : Int32} {f_this_notEvents : Int32} {f_this_deadNow : Int32} {f_this_allMissed : Int32} {f_this_allWanted : Int32} {f_this_allPrinted : Int32} {c_this_told : Nat → Int32} {c_this_head : Nat → Int32} {c_this_eventKind : Nat → Int32} {c_this_eventAt : Nat → Int32} {c_this_eventNozzle : Nat → Int32} {c_this_dots : Nat → Int32} {c_this_now : Nat → Int32} {c_this_hitMany : Nat → Int32} {c_this_hitPass : Nat → Int32} {c_this_hitNozzle : Nat → Int32} {c_this_hitPrints : Nat → Int32} {c_this_canMany : Nat → Int32} {c_this_printedBy : Nat → Int32} {c_this_missing : Nat → Int32} {c_this_prints : Nat → Int32} {c_this_gutter : Nat → Int32} {post : Int32 → (Int32 × Int32 × Int32 × Int32 × Int32 × (Nat → Int32) × (Nat → Int32) × (Nat → Int32) × (Nat → Int32) × (Nat → Int32) × (Nat → Int32) × (Nat → Int32) × (Nat → Int32) × (Nat → Int32) × (Nat → Int32) × (Nat → Int32)) → Prop} (I : RefI d s n ek ea en c_this_told c_this_head f_this_events c_this_eventKind c_this_eventAt c_this_eventNozzle) (h : ∀ u, post (ans_in ((0 : Int32) ≤ x1 ∧ x1 ≤ 15) (aMissed s (al0 n ek ea en) d x1.toNatClampNeg)) u) : wp_X4_missed x1 f_this_events f_this_notEvents f_this_deadNow f_this_allMissed f_this_allWanted f_this_allPrinted c_this_told c_this_head c_this_eventKind c_this_eventAt c_this_eventNozzle c_this_dots c_this_now c_this_hitMany c_this_hitPass c_this_hitNozzle c_this_hitPrints c_this_canMany c_this_printedBy c_this_missing c_this_prints c_this_gutter post := by
  unfold wp_X4_missed
  by_cases c : ((0 : Int32) ≤ x1 ∧ x1 ≤ 15)
  · rw [ans_in, if_pos c] at h
    obtain ⟨y, hy, e⟩ := (q_rng (n := 15) (by decide)).mp c
    subst e
    rw [nI_clamp (by omega)] at h
    exact r_lineT c (no1 one0 (r_missedOf I (by omega) (fun u => h _)))
  · rw [ans_in, if_neg c] at h
    exact r_lineF c (yes1 rfl (h _))
theorem last_at {s d : Nat → Nat} {al : Nat → Nat → Bool} (H : Hok s) {lp : Nat → Int32} (hp : ∀ y, y < 16 → ∃ b, LastOf (hs s y) (stk s al d 16 y).1 b ∧ lp y = oI b) {y : Nat} (hy : y < 16) : lp y = oI (lastP s al d y) := by
  obtain ⟨b, h1, h2⟩ := hp y hy
  rw [stk_at hy] at h1
  rw [h2, last_uniq h1 (lstf_ok H y _)]; rfl
theorem first_at {s d : Nat → Nat} {al : Nat → Nat → Bool} (H : Hok s) {lp : Nat → Int32} (hp : ∀ y, y < 16 → ∃ b, FirstOf (hs s y) (stk s al d 16 y).1 b ∧ lp y = oI b) {y : Nat} (hy : y < 16) : lp y = oI (firstP s al d y) := by
  obtain ⟨b, h1, h2⟩ := hp y hy
  rw [stk_at hy] at h1
  rw [h2, first_uniq h1 (fstf_ok H y _)]; rfl
theorem s_done {s d : Nat → Nat} {al : Nat → Nat → Bool} {x1 : Int32} {c_this_told_lastPass : Nat → Int32} {post : Int32 → Unit → Prop} (H : Hok s) (hp : ∀ y, y < 16 → ∃ b, LastOf (hs s y) (stk s al d 16 y).1 b ∧ c_this_told_lastPass y = oI b) (h : post (ans_in ((0 : Int32) ≤ x1 ∧ x1 ≤ 15) (aDone s al d x1.toNatClampNeg)) ()) : wp_X3_done x1 c_this_told_lastPass post := by
  unfold wp_X3_done
  by_cases c : ((0 : Int32) ≤ x1 ∧ x1 ≤ 15)
  · rw [ans_in, if_pos c] at h
    obtain ⟨y, hy, e⟩ := (q_rng (n := 15) (by decide)).mp c
    subst e
    rw [nI_clamp (by omega)] at h
    refine s_lineT c (no1 one0 ⟨vp_in_nI (by omega) (by omega), ?_⟩)
    rw [forall_eq, nI_clamp (by omega), last_at H hp (by omega)]; exact h
  · rw [ans_in, if_neg c] at h
    exact s_lineF c (yes1 rfl h)
theorem r_doneOf {d s : Nat → Nat} {n : Nat} {ek ea en : Nat → Nat} {y : Nat} {f_this_events : Int32} {f_this_notEvents : Int32} {f_this_deadNow : Int32} {f_this_allMissed : Int32} {f_this_allWanted : Int32} {f_this_allPrinted : Int32} {c_this_told : Nat → Int32} {c_this_head : Nat → Int32} {c_this_eventKind : Nat → Int32} {c_this_eventAt : Nat → Int32} {c_this_eventNozzle : Nat → Int32} {c_this_dots : Nat → Int32} {c_this_now : Nat → Int32} {c_this_hitMany : Nat → Int32} {c_this_hitPass : Nat → Int32} {c_this_hitNozzle : Nat → Int32} {c_this_hitPrints : Nat → Int32} {c_this_canMany : Nat → Int32} {c_this_printedBy : Nat → Int32} {c_this_missing : Nat → Int32} {c_this_prints : Nat → Int32} {c_this_gutter : Nat → Int32} {post : Int32 → (Int32 × Int32 × Int32 × Int32 × Int32 × (Nat → Int32) × (Nat → Int32) × (Nat → Int32) × (Nat → Int32) × (Nat → Int32) × (Nat → Int32) × (Nat → Int32) × (Nat → Int32) × (Nat → Int32) × (Nat → Int32) × (Nat → Int32)) → Prop} (I : RefI d s n ek ea en c_this_told c_this_head f_this_events c_this_eventKind c_this_eventAt c_this_eventNozzle) (hy : y < 16) (h : ∀ u, post (aDone s (al0 n ek ea en) d y) u) : wp_X4_doneOf (nI y) f_this_events f_this_notEvents f_this_deadNow f_this_allMissed f_this_allWanted f_this_allPrinted c_this_told c_this_head c_this_eventKind c_this_eventAt c_this_eventNozzle c_this_dots c_this_now c_this_hitMany c_this_hitPass c_this_hitNozzle c_this_hitPrints c_this_canMany c_this_printedBy c_this_missing c_this_prints c_this_gutter post := by
  unfold wp_X4_doneOf
  refine r_runsTold I (fun aM aW aP dots now hm hP hN hR cM pB mi pt gt i1 i2 i3 i4 => ?_)
  exact r_passNow (w := 1) i2.1 i4 hy (by omega) (h _)
theorem r_done {d s : Nat → Nat} {n : Nat} {ek ea en : Nat → Nat} {x1 : Int32} {f_this_events : Int32} {f_this_notEvents : Int32} {f_this_deadNow : Int32} {f_this_allMissed : Int32} {f_this_allWanted : Int32} {f_this_allPrinted : Int32} {c_this_told : Nat → Int32} {c_this_head : Nat → Int32} {c_this_eventKind : Nat → Int32} {c_this_eventAt : Nat → Int32} {c_this_eventNozzle : Nat → Int32} {c_this_dots : Nat → Int32} {c_this_now : Nat → Int32} {c_this_hitMany : Nat → Int32} {c_this_hitPass : Nat → Int32} {c_this_hitNozzle : Nat → Int32} {c_this_hitPrints : Nat → Int32} {c_this_canMany : Nat → Int32} {c_this_printedBy : Nat → Int32} {c_this_missing : Nat → Int32} {c_this_prints : Nat → Int32} {c_this_gutter : Nat → Int32} {post : Int32 → (Int32 × Int32 × Int32 × Int32 × Int32 × (Nat → Int32) × (Nat → Int32) × (Nat → Int32) × (Nat → Int32) × (Nat → Int32) × (Nat → Int32) × (Nat → Int32) × (Nat → Int32) × (Nat → Int32) × (Nat → Int32) × (Nat → Int32)) → Prop} (I : RefI d s n ek ea en c_this_told c_this_head f_this_events c_this_eventKind c_this_eventAt c_this_eventNozzle) (h : ∀ u, post (ans_in ((0 : Int32) ≤ x1 ∧ x1 ≤ 15) (aDone s (al0 n ek ea en) d x1.toNatClampNeg)) u) : wp_X4_done x1 f_this_events f_this_notEvents f_this_deadNow f_this_allMissed f_this_allWanted f_this_allPrinted c_this_told c_this_head c_this_eventKind c_this_eventAt c_this_eventNozzle c_this_dots c_this_now c_this_hitMany c_this_hitPass c_this_hitNozzle c_this_hitPrints c_this_canMany c_this_printedBy c_this_missing c_this_prints c_this_gutter post := by
  unfold wp_X4_done
  by_cases c : ((0 : Int32) ≤ x1 ∧ x1 ≤ 15)
  · rw [ans_in, if_pos c] at h
    obtain ⟨y, hy, e⟩ := (q_rng (n := 15) (by decide)).mp c
    subst e
    rw [nI_clamp (by omega)] at h
    exact r_lineT c (no1 one0 (r_doneOf I (by omega) (fun u => h _)))
  · rw [ans_in, if_neg c] at h
    exact r_lineF c (yes1 rfl (h _))
