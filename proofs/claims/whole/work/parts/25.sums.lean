/-! sums: what is in the picture, missed, strayed, in the gutter; drops; hits; even; open -/
theorem ct_sm (P : Nat → Bool) : ∀ n, fb_ct P n = fb_sm (fun k => if P k = true then 1 else 0) n := by
  intro n
  induction n with
  | zero => rfl
  | succ n ih => rw [fb_ct_succ, fb_sm_succ, ih]
theorem sm_rows (f : Nat → Nat) : ∀ P, fb_sm f (8 * P) = fb_sm (fun p => fb_sm (fun j => f (8 * p + j)) 8) P := by
  intro P
  induction P with
  | zero => rfl
  | succ P ih => rw [show 8 * (P + 1) = 8 * P + 8 by omega, fb_sm_split, ih]; rfl
theorem sm_swap (g : Nat → Nat → Nat) (m : Nat) : ∀ n, fb_sm (fun p => fb_sm (fun j => g p j) m) n = fb_sm (fun j => fb_sm (fun p => g p j) n) m := by
  intro n
  induction n with
  | zero => rw [show (fun j => fb_sm (fun p => g p j) 0) = fun _ => 0 from rfl, fb_sm_const]; simp [fb_sm]
  | succ n ih => rw [fb_sm_succ, ih, ← fb_sm_add]; rfl
def sDots (d : Nat → Nat) : Nat := fb_sm (fun y => pcn (d y)) 16
def sMiss (s : Nat → Nat) (al : Nat → Nat → Bool) (d : Nat → Nat) : Nat := fb_sm (fun y => (fin s al (d y) y).2.2.2.1) 16
def sStray (s : Nat → Nat) (al : Nat → Nat → Bool) (d : Nat → Nat) : Nat := fb_sm (fun y => (fin s al (d y) y).2.2.2.2.1) 16
def sWant (s : Nat → Nat) (al : Nat → Nat → Bool) (d : Nat → Nat) : Nat := fb_sm (fun y => (fin s al (d y) y).2.2.2.2.2) 16
noncomputable def gtb (s : Nat → Nat) (al : Nat → Nat → Bool) (d : Nat → Nat) (j : Nat) : Nat := if j < s 0 then (gu s al (PDv s (stk s al d 16)) j (s 3)).2 else 0
noncomputable def sGut (s : Nat → Nat) (al : Nat → Nat → Bool) (d : Nat → Nat) : Nat := fb_sm (fun j => pcn (gtb s al d j)) 8
theorem sm16_stk (f : PSt → Nat) (s : Nat → Nat) (al : Nat → Nat → Bool) (d : Nat → Nat) : sm16 f (stk s al d 16) = fb_sm (fun y => f (fin s al (d y) y)) 16 := fb_sm_cong (fun k hk => by rw [stk_at hk])
theorem gtb_lt {s : Nat → Nat} (H : Hok s) (al : Nat → Nat → Bool) (d : Nat → Nat) (j : Nat) : gtb s al d j < 4096 := by
  unfold gtb
  by_cases c : j < s 0
  · rw [if_pos c]
    exact Nat.lt_of_lt_of_le (gu_le s al _ j (s 3)).2 (Nat.pow_le_pow_right (by decide) H.2.2.2.1.2)
  · rw [if_neg c]; decide
theorem s_bitsOf {N : Nat} {f : Nat → Nat} {c_a0 : Nat → Int32} {post : Int32 → Unit → Prop} (hN : N < 2 ^ 20) (hf : ∀ k, k < N → c_a0 k = nI (f k) ∧ f k < 4096) (h : post (nI (fb_sm (fun k => pcn (f k)) N)) ()) : wp_X1_bitsOf N c_a0 post := by
  unfold wp_X1_bitsOf
  rw [forall_eq]
  have key : ∀ (m k : Nat), k ≤ N → N - k < m → wq_X1_bitsOf_10 N c_a0 (nI N) post (fun e13 => post e13 ()) m (nI (fb_sm (fun k => pcn (f k)) k)) (nI k) := by
    intro m
    induction m with
    | zero => intro k g1 g2; omega
    | succ m ih =>
      intro k g1 g2
      unfold wq_X1_bitsOf_10
      simp (disch := omega) only [nI_leI]
      refine ⟨fun q => ?_, fun q => ?_⟩
      · have e : k = N := by omega
        subst e; exact h
      · obtain ⟨f1, f2⟩ := hf k (by omega)
        have st := ih (k + 1) (by omega) (by omega)
        rw [fb_sm_succ] at st
        refine ⟨vp_in_nI (by omega) (by omega), ?_⟩
        rw [forall_eq, nI_clamp (by omega), f1]
        refine s_bitCount f2 ?_
        rw [forall_eq, forall_eq, nI_add, nI_1]
        exact st
  exact ⟨N + 1, key (N + 1) 0 (by omega) (by omega)⟩
theorem s_allDots {d : Nat → Nat} {c_this_picture : Nat → Int32} {post : Int32 → Unit → Prop} (hp : PicOk d c_this_picture) (h : post (nI (sDots d)) ()) : wp_X1_allDots c_this_picture post := s_bitsOf (by decide) (fun k hk => ⟨(hp k hk).1, by have := (hp k hk).2; omega⟩) h
theorem s_allMissed {s d : Nat → Nat} {al : Nat → Nat → Bool} {c_this_missedDots : Nat → Int32} {post : Int32 → Unit → Prop} (hp : ∀ y, y < 16 → c_this_missedDots y = nI (stk s al d 16 y).2.2.1) (h : post (nI (sMiss s al d)) ()) : wp_X1_allMissed c_this_missedDots post := by
  refine s_bitsOf (f := fun y => (fin s al (d y) y).2.2.1) (by decide) (fun k hk => ⟨by rw [hp k hk, stk_at hk], by have := (fin_nums s al (d k) k).1; omega⟩) ?_
  rw [show fb_sm (fun k => pcn (fin s al (d k) k).2.2.1) 16 = sMiss s al d from fb_sm_cong (fun k _ => (fin_nums s al (d k) k).2.1)]
  exact h
theorem s_gutterDrops {s d : Nat → Nat} {al : Nat → Nat → Bool} {c_this_gutter : Nat → Int32} {post : Int32 → Unit → Prop} (H : Hok s) (hp : GutC s al (PDv s (stk s al d 16)) c_this_gutter) (h : post (nI (sGut s al d)) ()) : wp_X1_gutterDrops c_this_gutter post :=
  s_bitsOf (f := gtb s al d) (by decide) (fun k hk => ⟨hp k hk, gtb_lt H al d k⟩) h
theorem r_dotsNow {d : Nat → Nat} {c_this_dots : Nat → Int32} {post : Int32 → Unit → Prop} (hp : PicOk d c_this_dots) (h : post (nI (sDots d)) ()) : wp_X4_dotsNow c_this_dots post := by
  unfold wp_X4_dotsNow
  have key : ∀ (m k : Nat), k ≤ 16 → 16 - k < m → wq_X4_dotsNow_4 c_this_dots post (fun e11 => post e11 ()) m (nI (fb_sm (fun k => pcn (d k)) k)) (nI k) := by
    intro m
    induction m with
    | zero => intro k g1 g2; omega
    | succ m ih =>
      intro k g1 g2
      unfold wq_X4_dotsNow_4
      simp (disch := omega) only [fa_lit, nI_leI]
      refine ⟨fun q => ?_, fun q => ?_⟩
      · have e : k = 16 := by omega
        subst e; exact h
      · obtain ⟨f1, f2⟩ := hp k (by omega)
        have st := ih (k + 1) (by omega) (by omega)
        rw [fb_sm_succ] at st
        refine ⟨vp_in_nI (by omega) (by omega), ?_⟩
        rw [forall_eq, nI_clamp (by omega), f1]
        refine r_many (by omega) ?_
        rw [forall_eq, forall_eq, nI_add, nI_add]
        exact st
  exact ⟨17, key 17 0 (by omega) (by omega)⟩
theorem gut_sum {s d : Nat → Nat} {al : Nat → Nat → Bool} : fb_sm (fun i => if i % 8 < s 0 ∧ (gu s al (PDv s (stk s al d 16)) (i % 8) (s 3)).2.testBit (i / 8) = true then 1 else 0) 96 = sGut s al d := by
  rw [show 96 = 8 * 12 from rfl, sm_rows]
  have e : ∀ p, p < 12 → fb_sm (fun j => if (8 * p + j) % 8 < s 0 ∧ (gu s al (PDv s (stk s al d 16)) ((8 * p + j) % 8) (s 3)).2.testBit ((8 * p + j) / 8) = true then 1 else 0) 8 = fb_sm (fun j => if (gtb s al d j).testBit p = true then 1 else 0) 8 := by
    intro p hp
    refine fb_sm_cong (fun j hj => ?_)
    rw [show (8 * p + j) % 8 = j by omega, show (8 * p + j) / 8 = p by omega]
    unfold gtb
    by_cases c : j < s 0
    · simp [c]
    · simp [c]
  rw [fb_sm_cong e, sm_swap]
  refine fb_sm_cong (fun j _ => ?_)
  rw [← ct_sm]; rfl
theorem r_guttersNow {s d : Nat → Nat} {al : Nat → Nat → Bool} {c_this_gutter : Nat → Int32} {post : Int32 → Unit → Prop} (hg : GutR s al (PDv s (stk s al d 16)) c_this_gutter) (h : post (nI (sGut s al d)) ()) : wp_X4_guttersNow c_this_gutter post := by
  unfold wp_X4_guttersNow
  have key : ∀ (m k : Nat), k ≤ 96 → 96 - k < m → wq_X4_guttersNow_4 c_this_gutter post (fun e7 => post e7 ()) m (nI (fb_sm (fun i => if i % 8 < s 0 ∧ (gu s al (PDv s (stk s al d 16)) (i % 8) (s 3)).2.testBit (i / 8) = true then 1 else 0) k)) (nI k) := by
    intro m
    induction m with
    | zero => intro k g1 g2; omega
    | succ m ih =>
      intro k g1 g2
      unfold wq_X4_guttersNow_4
      simp (disch := omega) only [fa_lit, nI_leI]
      refine ⟨fun q => ?_, fun q => ?_⟩
      · have e : k = 96 := by omega
        subst e; rw [gut_sum]; exact h
      · have st := ih (k + 1) (by omega) (by omega)
        rw [fb_sm_succ] at st
        have hk := hg (k / 8) (by omega) (k % 8) (by omega)
        rw [show 8 * (k / 8) + k % 8 = k by omega] at hk
        refine ⟨vp_in_nI (by omega) (by omega), ?_⟩
        rw [forall_eq, forall_eq, nI_clamp (by omega), hk, nI_add, nI_add]
        exact st
  exact ⟨97, key 97 0 (by omega) (by omega)⟩
/-- sum -/
noncomputable def aSum (s : Nat → Nat) (al : Nat → Nat → Bool) (d : Nat → Nat) (w : Nat) : Int32 := nI (if w = 0 then sDots d else if w = 1 then sMiss s al d else if w = 2 then sStray s al d else sGut s al d)
theorem r_sumOf {d s : Nat → Nat} {n : Nat} {ek ea en : Nat → Nat} {w : Nat} {f_this_events : Int32} {f_this_notEvents : Int32} {f_this_deadNow : Int32} {f_this_allMissed : Int32} {f_this_allWanted : Int32} {f_this_allPrinted : Int32} {c_this_told : Nat → Int32} {c_this_head : Nat → Int32} {c_this_eventKind : Nat → Int32} {c_this_eventAt : Nat → Int32} {c_this_eventNozzle : Nat → Int32} {c_this_dots : Nat → Int32} {c_this_now : Nat → Int32} {c_this_hitMany : Nat → Int32} {c_this_hitPass : Nat → Int32} {c_this_hitNozzle : Nat → Int32} {c_this_hitPrints : Nat → Int32} {c_this_canMany : Nat → Int32} {c_this_printedBy : Nat → Int32} {c_this_missing : Nat → Int32} {c_this_prints : Nat → Int32} {c_this_gutter : Nat → Int32} {post : Int32 → (Int32 × Int32 × Int32 × Int32 × Int32 × (Nat → Int32) × (Nat → Int32) × (Nat → Int32) × (Nat → Int32) × (Nat → Int32) × (Nat → Int32) × (Nat → Int32) × (Nat → Int32) × (Nat → Int32) × (Nat → Int32) × (Nat → Int32)) → Prop} (I : RefI d s n ek ea en c_this_told c_this_head f_this_events c_this_eventKind c_this_eventAt c_this_eventNozzle) (hw : w < 2 ^ 31) (h : ∀ u, post (aSum s (al0 n ek ea en) d w) u) : wp_X4_sumOf (nI w) f_this_events f_this_notEvents f_this_deadNow f_this_allMissed f_this_allWanted f_this_allPrinted c_this_told c_this_head c_this_eventKind c_this_eventAt c_this_eventNozzle c_this_dots c_this_now c_this_hitMany c_this_hitPass c_this_hitNozzle c_this_hitPrints c_this_canMany c_this_printedBy c_this_missing c_this_prints c_this_gutter post := by
  unfold wp_X4_sumOf
  refine r_runsTold I (fun aM aW aP dots now hm hP hN hR cM pB mi pt gt i1 i2 i3 i4 => ?_)
  rw [show (0 : Int32) = nI 0 from rfl, show (1 : Int32) = nI 1 from rfl, show (2 : Int32) = nI 2 from rfl]
  simp (disch := omega) only [nI_eq]
  unfold aSum at h
  by_cases c0 : w = 0
  · refine yes2 c0 (r_dotsNow i1 ?_)
    rw [if_pos c0] at h; exact h _
  · refine no2 c0 ?_
    rw [if_neg c0] at h
    by_cases c1 : w = 1
    · refine yes2 c1 ?_
      rw [if_pos c1] at h
      rw [forall_eq]
      have e := i4.2.1.1
      rw [sm16_stk] at e
      show post aM _
      rw [e]; exact h _
    · refine no2 c1 ?_
      rw [if_neg c1] at h
      by_cases c2 : w = 2
      · refine yes2 c2 ?_
        rw [if_pos c2] at h
        rw [forall_eq, forall_eq]
        have e1 := i4.2.1.2.1
        have e2 := i4.2.1.2.2.1
        rw [sm16_stk] at e1 e2
        rw [fb_sm_add] at e2
        show post (aP - aW) _
        rw [e1, e2, pk_sub (Nat.le_add_left _ _), Nat.add_sub_cancel]
        exact h _
      · refine no2 c2 (r_guttersNow i4.2.2 ?_)
        rw [if_neg c2] at h; exact h _
def ans_in (c : Prop) [Decidable c] (v : Int32) : Int32 := if c then v else -2
theorem s_sum {s d : Nat → Nat} {al : Nat → Nat → Bool} {hc hp ph fp lp dp : Nat → Int32} {x1 : Int32} {f_this_told_strayed : Int32} {c_this_told_picture : Nat → Int32} {c_this_told_missedDots : Nat → Int32} {c_this_told_gutter : Nat → Int32} {post : Int32 → Unit → Prop} (H : Hok s) (hpic : PicOk d c_this_told_picture) (hP : PlanOk s al d f_this_told_strayed hc hp ph c_this_told_missedDots fp lp dp c_this_told_gutter) (h : post (ans_in ((0 : Int32) ≤ x1 ∧ x1 ≤ 3) (aSum s al d x1.toNatClampNeg)) ()) : wp_X3_sum x1 f_this_told_strayed c_this_told_picture c_this_told_missedDots c_this_told_gutter post := by
  unfold wp_X3_sum
  by_cases c : (0 : Int32) ≤ x1 ∧ x1 ≤ 3
  · rw [ans_in, if_pos c] at h
    refine s_withinT c (no2 one0 ?_)
    obtain ⟨w, hw, e⟩ := (q_rng (n := 3) (by decide)).mp c
    subst e
    rw [nI_clamp (by omega)] at h
    rw [show (0 : Int32) = nI 0 from rfl, show (1 : Int32) = nI 1 from rfl, show (2 : Int32) = nI 2 from rfl]
    simp (disch := omega) only [nI_eq]
    unfold aSum at h
    by_cases c0 : w = 0
    · rw [if_pos c0] at h
      exact yes1 c0 (s_allDots hpic h)
    · rw [if_neg c0] at h
      refine no1 c0 ?_
      by_cases c1 : w = 1
      · rw [if_pos c1] at h
        exact yes1 c1 (s_allMissed hP.2.1.2.2.1 h)
      · rw [if_neg c1] at h
        refine no1 c1 ?_
        by_cases c2 : w = 2
        · rw [if_pos c2] at h
          refine yes1 c2 ?_
          have e1 := hP.2.1.1
          rw [sm16_stk] at e1
          rw [e1]; exact h
        · rw [if_neg c2] at h
          exact no1 c2 (s_gutterDrops H hP.2.2 h)
  · rw [ans_in, if_neg c] at h
    exact s_withinF c (yes2 rfl h)
theorem r_sum {d s : Nat → Nat} {n : Nat} {ek ea en : Nat → Nat} {x1 : Int32} {f_this_events : Int32} {f_this_notEvents : Int32} {f_this_deadNow : Int32} {f_this_allMissed : Int32} {f_this_allWanted : Int32} {f_this_allPrinted : Int32} {c_this_told : Nat → Int32} {c_this_head : Nat → Int32} {c_this_eventKind : Nat → Int32} {c_this_eventAt : Nat → Int32} {c_this_eventNozzle : Nat → Int32} {c_this_dots : Nat → Int32} {c_this_now : Nat → Int32} {c_this_hitMany : Nat → Int32} {c_this_hitPass : Nat → Int32} {c_this_hitNozzle : Nat → Int32} {c_this_hitPrints : Nat → Int32} {c_this_canMany : Nat → Int32} {c_this_printedBy : Nat → Int32} {c_this_missing : Nat → Int32} {c_this_prints : Nat → Int32} {c_this_gutter : Nat → Int32} {post : Int32 → (Int32 × Int32 × Int32 × Int32 × Int32 × (Nat → Int32) × (Nat → Int32) × (Nat → Int32) × (Nat → Int32) × (Nat → Int32) × (Nat → Int32) × (Nat → Int32) × (Nat → Int32) × (Nat → Int32) × (Nat → Int32) × (Nat → Int32)) → Prop} (I : RefI d s n ek ea en c_this_told c_this_head f_this_events c_this_eventKind c_this_eventAt c_this_eventNozzle) (h : ∀ u, post (ans_in ((0 : Int32) ≤ x1 ∧ x1 ≤ 3) (aSum s (al0 n ek ea en) d x1.toNatClampNeg)) u) : wp_X4_sum x1 f_this_events f_this_notEvents f_this_deadNow f_this_allMissed f_this_allWanted f_this_allPrinted c_this_told c_this_head c_this_eventKind c_this_eventAt c_this_eventNozzle c_this_dots c_this_now c_this_hitMany c_this_hitPass c_this_hitNozzle c_this_hitPrints c_this_canMany c_this_printedBy c_this_missing c_this_prints c_this_gutter post := by
  unfold wp_X4_sum
  by_cases c : (0 : Int32) ≤ x1 ∧ x1 ≤ 3
  · rw [ans_in, if_pos c] at h
    refine r_inT c (no1 one0 ?_)
    obtain ⟨w, hw, e⟩ := (q_rng (n := 3) (by decide)).mp c
    subst e
    rw [nI_clamp (by omega)] at h
    exact r_sumOf I (by omega) (fun u => h _)
  · rw [ans_in, if_neg c] at h
    exact r_inF c (yes1 rfl (h _))
/-- all hits -/
def sHits (s : Nat → Nat) : Nat := fb_sm (fun y => (hs s y).length) 16
theorem s_allHits {s : Nat → Nat} {c_this_hitCount : Nat → Int32} {post : Int32 → Unit → Prop} (hp : CntOk s (prs (s 0) (s 3)) c_this_hitCount) (h : post (nI (sHits s)) ()) : wp_X1_allHits c_this_hitCount post := by
  unfold wp_X1_allHits
  have key : ∀ (m k : Nat), k ≤ 16 → 16 - k < m → wq_X1_allHits_13 c_this_hitCount 16 post (fun e9 => post e9 ()) m (nI (fb_sm (fun y => (hs s y).length) k)) (nI k) := by
    intro m
    induction m with
    | zero => intro k g1 g2; omega
    | succ m ih =>
      intro k g1 g2
      unfold wq_X1_allHits_13
      simp (disch := omega) only [fa_lit, nI_leI]
      refine ⟨fun q => ?_, fun q => ?_⟩
      · have e : k = 16 := by omega
        subst e; exact h
      · have st := ih (k + 1) (by omega) (by omega)
        rw [fb_sm_succ] at st
        refine ⟨vp_in_nI (by omega) (by omega), ?_⟩
        rw [forall_eq, forall_eq, forall_eq, nI_clamp (by omega), hp k (by omega), nI_add, nI_add]
        exact st
  exact ⟨17, key 17 0 (by omega) (by omega)⟩
theorem r_hitsAll {d s : Nat → Nat} {n : Nat} {ek ea en : Nat → Nat} {f_this_events : Int32} {f_this_notEvents : Int32} {f_this_deadNow : Int32} {f_this_allMissed : Int32} {f_this_allWanted : Int32} {f_this_allPrinted : Int32} {c_this_told : Nat → Int32} {c_this_head : Nat → Int32} {c_this_eventKind : Nat → Int32} {c_this_eventAt : Nat → Int32} {c_this_eventNozzle : Nat → Int32} {c_this_dots : Nat → Int32} {c_this_now : Nat → Int32} {c_this_hitMany : Nat → Int32} {c_this_hitPass : Nat → Int32} {c_this_hitNozzle : Nat → Int32} {c_this_hitPrints : Nat → Int32} {c_this_canMany : Nat → Int32} {c_this_printedBy : Nat → Int32} {c_this_missing : Nat → Int32} {c_this_prints : Nat → Int32} {c_this_gutter : Nat → Int32} {post : Int32 → (Int32 × Int32 × Int32 × Int32 × Int32 × (Nat → Int32) × (Nat → Int32) × (Nat → Int32) × (Nat → Int32) × (Nat → Int32) × (Nat → Int32) × (Nat → Int32) × (Nat → Int32) × (Nat → Int32) × (Nat → Int32) × (Nat → Int32)) → Prop} (I : RefI d s n ek ea en c_this_told c_this_head f_this_events c_this_eventKind c_this_eventAt c_this_eventNozzle) (h : ∀ u, post (nI (sHits s)) u) : wp_X4_hitsAll f_this_events f_this_notEvents f_this_deadNow f_this_allMissed f_this_allWanted f_this_allPrinted c_this_told c_this_head c_this_eventKind c_this_eventAt c_this_eventNozzle c_this_dots c_this_now c_this_hitMany c_this_hitPass c_this_hitNozzle c_this_hitPrints c_this_canMany c_this_printedBy c_this_missing c_this_prints c_this_gutter post := by
  unfold wp_X4_hitsAll
  refine r_runsTold I (fun aM aW aP dots now hm hP hN hR cM pB mi pt gt i1 i2 i3 i4 => ?_)
  have key : ∀ (Ke : Int32 → Prop), Ke (nI (sHits s)) → ∀ (m k : Nat), k ≤ 16 → 16 - k < m → wq_X4_hitsAll_8 f_this_events c_this_told c_this_head c_this_eventKind c_this_eventAt c_this_eventNozzle 0 (-1) aM aW aP dots now hm hP hN hR cM pB mi pt gt post Ke m (nI (fb_sm (fun y => (hs s y).length) k)) (nI k) := by
    intro Ke hK m
    induction m with
    | zero => intro k g1 g2; omega
    | succ m ih =>
      intro k g1 g2
      unfold wq_X4_hitsAll_8
      simp (disch := omega) only [fa_lit, nI_leI]
      refine ⟨fun q => ?_, fun q => ?_⟩
      · have e : k = 16 := by omega
        subst e; exact hK
      · have st := ih (k + 1) (by omega) (by omega)
        rw [fb_sm_succ] at st
        refine ⟨vp_in_nI (by omega) (by omega), ?_⟩
        rw [forall_eq, forall_eq, nI_clamp (by omega), i4.1.cnt (by omega), nI_add, nI_add]
        exact st
  exact ⟨17, key _ (h _) 17 0 (by omega) (by omega)⟩
/-- least -/
def sLeast (s : Nat → Nat) (al : Nat → Nat → Bool) (d : Nat → Nat) : Nat := fb_sm (fun y => fw s al (s 5) (d y) y) 16
theorem s_least {s d : Nat → Nat} {al : Nat → Nat → Bool} {c_this_told_picture : Nat → Int32} {c_this_told_head : Nat → Int32} {c_this_told_living : Nat → Int32} {c_this_told_hitCount : Nat → Int32} {c_this_told_hitPlace : Nat → Int32} {post : Int32 → Unit → Prop} (hh : Hd s c_this_told_head) (hpic : PicOk d c_this_told_picture) (hL : LivOk al c_this_told_living) (hH : ClsH s c_this_told_hitCount c_this_told_hitPlace) (h : post (nI (sLeast s al d)) ()) : wp_X3_least c_this_told_picture c_this_told_head c_this_told_living c_this_told_hitCount c_this_told_hitPlace post := by
  unfold wp_X3_least
  have key : ∀ (m k : Nat), k ≤ 16 → 16 - k < m → wq_X3_least_4 c_this_told_picture c_this_told_head c_this_told_living c_this_told_hitCount c_this_told_hitPlace post (fun e10 => post e10 ()) m (nI (fb_sm (fun y => fw s al (s 5) (d y) y) k)) (nI k) := by
    intro m
    induction m with
    | zero => intro k g1 g2; omega
    | succ m ih =>
      intro k g1 g2
      unfold wq_X3_least_4
      simp (disch := omega) only [fa_lit, nI_leI]
      refine ⟨fun q => ?_, fun q => ?_⟩
      · have e : k = 16 := by omega
        subst e; exact h
      · have st := ih (k + 1) (by omega) (by omega)
        rw [fb_sm_succ] at st
        rw [forall_eq, hh.at 5 (by omega) (by omega)]
        refine s_fewestMissed hh hH hL (by omega) hh.1.2.2.2.2.2.1.2 (hpic k (by omega)).1 (hpic k (by omega)).2 ?_
        rw [forall_eq, forall_eq, nI_add, nI_add]
        exact st
  exact ⟨17, key 17 0 (by omega) (by omega)⟩
theorem r_leastOf {d s : Nat → Nat} {n : Nat} {ek ea en : Nat → Nat} {f_this_events : Int32} {f_this_notEvents : Int32} {f_this_deadNow : Int32} {f_this_allMissed : Int32} {f_this_allWanted : Int32} {f_this_allPrinted : Int32} {c_this_told : Nat → Int32} {c_this_head : Nat → Int32} {c_this_eventKind : Nat → Int32} {c_this_eventAt : Nat → Int32} {c_this_eventNozzle : Nat → Int32} {c_this_dots : Nat → Int32} {c_this_now : Nat → Int32} {c_this_hitMany : Nat → Int32} {c_this_hitPass : Nat → Int32} {c_this_hitNozzle : Nat → Int32} {c_this_hitPrints : Nat → Int32} {c_this_canMany : Nat → Int32} {c_this_printedBy : Nat → Int32} {c_this_missing : Nat → Int32} {c_this_prints : Nat → Int32} {c_this_gutter : Nat → Int32} {c_this_able : Nat → Int32} {post : Int32 → (Int32 × Int32 × Int32 × Int32 × Int32 × (Nat → Int32) × (Nat → Int32) × (Nat → Int32) × (Nat → Int32) × (Nat → Int32) × (Nat → Int32) × (Nat → Int32) × (Nat → Int32) × (Nat → Int32) × (Nat → Int32) × (Nat → Int32) × (Nat → Int32)) → Prop} (I : RefI d s n ek ea en c_this_told c_this_head f_this_events c_this_eventKind c_this_eventAt c_this_eventNozzle) (h : ∀ u, post (nI (sLeast s (al0 n ek ea en) d)) u) : wp_X4_leastOf f_this_events f_this_notEvents f_this_deadNow f_this_allMissed f_this_allWanted f_this_allPrinted c_this_told c_this_head c_this_eventKind c_this_eventAt c_this_eventNozzle c_this_dots c_this_now c_this_hitMany c_this_hitPass c_this_hitNozzle c_this_hitPrints c_this_canMany c_this_printedBy c_this_missing c_this_prints c_this_gutter c_this_able post := by
  unfold wp_X4_leastOf
  refine r_runsTold I (fun aM aW aP dots now hm hP hN hR cM pB mi pt gt i1 i2 i3 i4 => ?_)
  have key : ∀ (Ke : Int32 → (Nat → Int32) → Prop), (∀ c, Ke (nI (sLeast s (al0 n ek ea en) d)) c) → ∀ (m k : Nat) (ab : Nat → Int32), k ≤ 16 → 16 - k < m → wq_X4_leastOf_8 f_this_events c_this_told c_this_head c_this_eventKind c_this_eventAt c_this_eventNozzle 0 (-1) aM aW aP dots now hm hP hN hR cM pB mi pt gt post Ke m (nI (fb_sm (fun y => fw s (al0 n ek ea en) (s 5) (d y) y) k)) (nI k) ab := by
    intro Ke hK m
    induction m with
    | zero => intro k ab g1 g2; omega
    | succ m ih =>
      intro k ab g1 g2
      unfold wq_X4_leastOf_8
      rw [show (16 : Int32) = nI 16 from rfl, nI_leI (by omega) (by omega)]
      refine ⟨fun q => ?_, fun q => ?_⟩
      · have e : k = 16 := by omega
        subst e; exact hK _
      · refine r_leastIn i2 i3 i4.1 (by omega) (i1 k (by omega)).2 (i1 k (by omega)).1 (fun u => ?_)
        have st := ih (k + 1) u (by omega) (by omega)
        rw [fb_sm_succ] at st
        rw [forall_eq, forall_eq, nI_add, nI_1]
        exact st
  exact ⟨17, key _ (fun c => h _) 17 0 _ (by omega) (by omega)⟩
theorem r_least {d s : Nat → Nat} {n : Nat} {ek ea en : Nat → Nat} {f_this_events : Int32} {f_this_notEvents : Int32} {f_this_deadNow : Int32} {f_this_allMissed : Int32} {f_this_allWanted : Int32} {f_this_allPrinted : Int32} {c_this_told : Nat → Int32} {c_this_head : Nat → Int32} {c_this_eventKind : Nat → Int32} {c_this_eventAt : Nat → Int32} {c_this_eventNozzle : Nat → Int32} {c_this_dots : Nat → Int32} {c_this_now : Nat → Int32} {c_this_hitMany : Nat → Int32} {c_this_hitPass : Nat → Int32} {c_this_hitNozzle : Nat → Int32} {c_this_hitPrints : Nat → Int32} {c_this_canMany : Nat → Int32} {c_this_printedBy : Nat → Int32} {c_this_missing : Nat → Int32} {c_this_prints : Nat → Int32} {c_this_gutter : Nat → Int32} {c_this_able : Nat → Int32} {post : Int32 → (Int32 × Int32 × Int32 × Int32 × Int32 × (Nat → Int32) × (Nat → Int32) × (Nat → Int32) × (Nat → Int32) × (Nat → Int32) × (Nat → Int32) × (Nat → Int32) × (Nat → Int32) × (Nat → Int32) × (Nat → Int32) × (Nat → Int32) × (Nat → Int32)) → Prop} (I : RefI d s n ek ea en c_this_told c_this_head f_this_events c_this_eventKind c_this_eventAt c_this_eventNozzle) (h : ∀ u, post (nI (sLeast s (al0 n ek ea en) d)) u) : wp_X4_least f_this_events f_this_notEvents f_this_deadNow f_this_allMissed f_this_allWanted f_this_allPrinted c_this_told c_this_head c_this_eventKind c_this_eventAt c_this_eventNozzle c_this_dots c_this_now c_this_hitMany c_this_hitPass c_this_hitNozzle c_this_hitPrints c_this_canMany c_this_printedBy c_this_missing c_this_prints c_this_gutter c_this_able post := r_leastOf I (fun u => h _)
