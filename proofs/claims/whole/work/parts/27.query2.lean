/-! pass, drops, even, open -/
noncomputable def pdn (s : Nat → Nat) (al : Nat → Nat → Bool) (d : Nat → Nat) (p j : Nat) : Nat := PDv s (stk s al d 16) (8 * p + j)
noncomputable def aPass (s : Nat → Nat) (al : Nat → Nat → Bool) (d : Nat → Nat) (p j w : Nat) : Int32 := if w = 0 then nI (pdn s al d p j) else if w = 1 then b01 ((gtb s al d j).testBit p) else b01 (al p j)
theorem q_bit01 {a p : Nat} (ha : a < 2 ^ 31) (hp : p < 32) : nI a >>> (nI p &&& nI 31) &&& nI 1 = b01 (a.testBit p) := by
  rw [q_shr ha hp, q_and1, q_tb]
  rcases Nat.mod_two_eq_zero_or_one (a / 2 ^ p) with h | h
  · rw [h]; rfl
  · rw [h]; rfl
theorem s_isNozzle {s : Nat → Nat} {x1 : Int32} {c_this_told_head : Nat → Int32} {post : Int32 → Unit → Prop} (hh : Hd s c_this_told_head) (h : post (b01 (decide ((0 : Int32) ≤ x1 ∧ x1 ≤ nI (s 0 - 1)))) ()) : wp_X3_isNozzle x1 c_this_told_head post := by
  unfold wp_X3_isNozzle
  rw [forall_eq, forall_eq, hh.at 0 (by omega) (by omega), show (1 : Int32) = nI 1 from rfl, pk_sub hh.1.1.1]
  exact s_within ⟨(b01_or _).mpr trivial, h⟩
theorem r_isNozzle {s : Nat → Nat} {x1 : Int32} {c_this_head : Nat → Int32} {post : Int32 → Unit → Prop} (hh : Hd s c_this_head) (h : post (b01 (decide ((0 : Int32) ≤ x1 ∧ x1 ≤ nI (s 0 - 1)))) ()) : wp_X4_isNozzle x1 c_this_head post := by
  unfold wp_X4_isNozzle
  rw [forall_eq, forall_eq, hh.at 0 (by omega) (by omega), show (1 : Int32) = nI 1 from rfl, pk_sub hh.1.1.1]
  exact s_in ⟨(b01_or _).mpr trivial, h⟩
theorem s_pass3 {s d : Nat → Nat} {al : Nat → Nat → Bool} {x1 : Int32} {x2 : Int32} {x3 : Int32} {c_this_told_head : Nat → Int32} {c_this_told_living : Nat → Int32} {c_this_told_dotsPrinted : Nat → Int32} {c_this_told_gutter : Nat → Int32} {post : Int32 → Unit → Prop} (hh : Hd s c_this_told_head) (hL : LivOk al c_this_told_living) (hD : DpOk s (stk s al d 16) c_this_told_dotsPrinted) (hG : GutC s al (PDv s (stk s al d 16)) c_this_told_gutter) (h : post (ans_in (((0 : Int32) ≤ x1 ∧ x1 ≤ nI (s 3 - 1)) ∧ ((0 : Int32) ≤ x2 ∧ x2 ≤ nI (s 0 - 1)) ∧ ((0 : Int32) ≤ x3 ∧ x3 ≤ 2)) (aPass s al d x1.toNatClampNeg x2.toNatClampNeg x3.toNatClampNeg)) ()) : wp_X3_pass x1 x2 x3 c_this_told_head c_this_told_living c_this_told_dotsPrinted c_this_told_gutter post := by
  have H := hh.1
  obtain ⟨a0, a1, a2, a3, a4, a5, a6, a7, a8⟩ := id H
  unfold wp_X3_pass
  rw [forall_eq, forall_eq, hh.at 3 (by omega) (by omega), show (1 : Int32) = nI 1 from rfl, pk_sub a3.1]
  by_cases c1 : (0 : Int32) ≤ x1 ∧ x1 ≤ nI (s 3 - 1)
  · refine s_withinT c1 (no1 one0 (s_isNozzle hh ?_))
    by_cases c2 : (0 : Int32) ≤ x2 ∧ x2 ≤ nI (s 0 - 1)
    · rw [decide_eq_true c2]
      refine no1 one0 ?_
      by_cases c3 : (0 : Int32) ≤ x3 ∧ x3 ≤ 2
      · refine s_withinT c3 (no2 one0 ?_)
        rw [ans_in, if_pos ⟨c1, c2, c3⟩] at h
        obtain ⟨p, hp, e⟩ := (q_rng (by omega)).mp c1
        subst e
        obtain ⟨j, hj, e⟩ := (q_rng (by omega)).mp c2
        subst e
        obtain ⟨w, hw, e⟩ := (q_rng (n := 2) (by decide)).mp c3
        subst e
        rw [nI_clamp (by omega), nI_clamp (by omega), nI_clamp (by omega)] at h
        unfold aPass at h
        rw [show (0 : Int32) = nI 0 from rfl, nI_eq (by omega) (by omega), nI_eq (by omega) (by omega)]
        by_cases w0 : w = 0
        · refine yes1 w0 ?_
          rw [if_pos w0] at h
          rw [forall_eq, forall_eq, show (8 : Int32) = nI 8 from rfl, pk_mul, nI_add]
          refine ⟨vp_in_nI (by omega) (by omega), ?_⟩
          rw [nI_clamp (by omega), dp_val H hD (by omega), Nat.mul_comm p 8]; exact h
        · refine no1 w0 ?_
          rw [if_neg w0] at h
          by_cases w1 : w = 1
          · refine yes1 w1 ⟨vp_in_nI (by omega) (by omega), ?_⟩
            rw [if_pos w1] at h
            have e : c_this_told_gutter j = nI (gtb s al d j) := hG j (by omega)
            have := gtb_lt H al d j
            rw [forall_eq, forall_eq, nI_clamp (by omega), e, show (31 : Int32) = nI 31 from rfl, q_bit01 (by omega) (by omega)]; exact h
          · refine no1 w1 ⟨vp_in_nI (by omega) (by omega), ?_⟩
            rw [if_neg w1] at h
            obtain ⟨a, ha, hb, hc⟩ := hL j (by omega)
            rw [forall_eq, forall_eq, nI_clamp (by omega), hb, show (31 : Int32) = nI 31 from rfl, q_bit01 (by omega) (by omega), hc p (by omega)]; exact h
      · rw [ans_in, if_neg (fun q => c3 q.2.2)] at h
        exact s_withinF c3 (yes2 rfl h)
    · rw [decide_eq_false c2]
      rw [ans_in, if_neg (fun q => c2 q.2.1)] at h
      exact yes1 rfl h
  · rw [ans_in, if_neg (fun q => c1 q.1)] at h
    exact s_withinF c1 (yes1 rfl h)
theorem r_passOf {d s : Nat → Nat} {n : Nat} {ek ea en : Nat → Nat} {p j w : Nat} {f_this_events : Int32} {f_this_notEvents : Int32} {f_this_deadNow : Int32} {f_this_allMissed : Int32} {f_this_allWanted : Int32} {f_this_allPrinted : Int32} {c_this_told : Nat → Int32} {c_this_head : Nat → Int32} {c_this_eventKind : Nat → Int32} {c_this_eventAt : Nat → Int32} {c_this_eventNozzle : Nat → Int32} {c_this_dots : Nat → Int32} {c_this_now : Nat → Int32} {c_this_hitMany : Nat → Int32} {c_this_hitPass : Nat → Int32} {c_this_hitNozzle : Nat → Int32} {c_this_hitPrints : Nat → Int32} {c_this_canMany : Nat → Int32} {c_this_printedBy : Nat → Int32} {c_this_missing : Nat → Int32} {c_this_prints : Nat → Int32} {c_this_gutter : Nat → Int32} {post : Int32 → (Int32 × Int32 × Int32 × Int32 × Int32 × (Nat → Int32) × (Nat → Int32) × (Nat → Int32) × (Nat → Int32) × (Nat → Int32) × (Nat → Int32) × (Nat → Int32) × (Nat → Int32) × (Nat → Int32) × (Nat → Int32) × (Nat → Int32)) → Prop} (I : RefI d s n ek ea en c_this_told c_this_head f_this_events c_this_eventKind c_this_eventAt c_this_eventNozzle) (hp : p < 12) (hj : j < s 0) (hw : w ≤ 2) (h : ∀ u, post (aPass s (al0 n ek ea en) d p j w) u) : wp_X4_passOf (nI p) (nI j) (nI w) f_this_events f_this_notEvents f_this_deadNow f_this_allMissed f_this_allWanted f_this_allPrinted c_this_told c_this_head c_this_eventKind c_this_eventAt c_this_eventNozzle c_this_dots c_this_now c_this_hitMany c_this_hitPass c_this_hitNozzle c_this_hitPrints c_this_canMany c_this_printedBy c_this_missing c_this_prints c_this_gutter post := by
  have H := I.2.1.1
  obtain ⟨a0, a1, a2, a3, a4, a5, a6, a7, a8⟩ := id H
  unfold wp_X4_passOf
  refine r_runsTold I (fun aM aW aP dots now hm hP hN hR cM pB mi pt gt i1 i2 i3 i4 => ?_)
  dsimp only
  unfold aPass at h
  by_cases w0 : w = 0
  · refine yes2 (by rw [w0]; rfl) ?_
    simp only [if_pos w0] at h
    rw [forall_eq, forall_eq, show (8 : Int32) = nI 8 from rfl, pk_mul, nI_add]
    refine ⟨vp_in_nI (by omega) (by omega), ?_⟩
    rw [forall_eq, nI_clamp (by omega), show pt (8 * p + j) = _ from dp_val H i4.2.1.2.2.2.2.2.2 (by omega)]; exact h _
  · refine no2 (fun q => w0 ((nI_eq (b := 0) (by omega) (by omega)).mp q)) ?_
    simp only [if_neg w0] at h
    by_cases w1 : w = 1
    · refine yes2 (by rw [w1]; rfl) ?_
      simp only [if_pos w1] at h
      rw [forall_eq, forall_eq, show (8 : Int32) = nI 8 from rfl, pk_mul, nI_add]
      refine ⟨vp_in_nI (by omega) (by omega), ?_⟩
      have e := i4.2.2 p hp j (by omega)
      have e2 : nI (if j < s 0 ∧ (gu s (al0 n ek ea en) (PDv s (stk s (al0 n ek ea en) d 16)) j (s 3)).2.testBit p = true then 1 else 0) = b01 ((gtb s (al0 n ek ea en) d j).testBit p) := by
        unfold gtb
        rw [if_pos hj]
        cases hb : (gu s (al0 n ek ea en) (PDv s (stk s (al0 n ek ea en) d 16)) j (s 3)).2.testBit p with
        | true => rw [if_pos ⟨hj, rfl⟩]; rfl
        | false => rw [if_neg (by intro q; exact absurd q.2 (by decide))]; rfl
      rw [forall_eq, nI_clamp (by omega), show gt (8 * p + j) = _ from e, e2]; exact h _
    · refine no2 (fun q => w1 ((nI_eq (b := 1) (by omega) (by omega)).mp q)) ?_
      simp only [if_neg w1] at h
      refine i3 p j _ (by omega) (by omega) ?_
      rw [b01_0]
      cases ha : al0 n ek ea en p j with
      | false => rw [ha] at h; exact yes1 rfl (h _)
      | true => rw [ha] at h; exact no1 (by decide) (h _)
theorem r_pass {d s : Nat → Nat} {n : Nat} {ek ea en : Nat → Nat} {x1 : Int32} {x2 : Int32} {x3 : Int32} {f_this_events : Int32} {f_this_notEvents : Int32} {f_this_deadNow : Int32} {f_this_allMissed : Int32} {f_this_allWanted : Int32} {f_this_allPrinted : Int32} {c_this_told : Nat → Int32} {c_this_head : Nat → Int32} {c_this_eventKind : Nat → Int32} {c_this_eventAt : Nat → Int32} {c_this_eventNozzle : Nat → Int32} {c_this_dots : Nat → Int32} {c_this_now : Nat → Int32} {c_this_hitMany : Nat → Int32} {c_this_hitPass : Nat → Int32} {c_this_hitNozzle : Nat → Int32} {c_this_hitPrints : Nat → Int32} {c_this_canMany : Nat → Int32} {c_this_printedBy : Nat → Int32} {c_this_missing : Nat → Int32} {c_this_prints : Nat → Int32} {c_this_gutter : Nat → Int32} {post : Int32 → (Int32 × Int32 × Int32 × Int32 × Int32 × (Nat → Int32) × (Nat → Int32) × (Nat → Int32) × (Nat → Int32) × (Nat → Int32) × (Nat → Int32) × (Nat → Int32) × (Nat → Int32) × (Nat → Int32) × (Nat → Int32) × (Nat → Int32)) → Prop} (I : RefI d s n ek ea en c_this_told c_this_head f_this_events c_this_eventKind c_this_eventAt c_this_eventNozzle) (h : ∀ u, post (ans_in (((0 : Int32) ≤ x1 ∧ x1 ≤ nI (s 3 - 1)) ∧ ((0 : Int32) ≤ x2 ∧ x2 ≤ nI (s 0 - 1)) ∧ ((0 : Int32) ≤ x3 ∧ x3 ≤ 2)) (aPass s (al0 n ek ea en) d x1.toNatClampNeg x2.toNatClampNeg x3.toNatClampNeg)) u) : wp_X4_pass x1 x2 x3 f_this_events f_this_notEvents f_this_deadNow f_this_allMissed f_this_allWanted f_this_allPrinted c_this_told c_this_head c_this_eventKind c_this_eventAt c_this_eventNozzle c_this_dots c_this_now c_this_hitMany c_this_hitPass c_this_hitNozzle c_this_hitPrints c_this_canMany c_this_printedBy c_this_missing c_this_prints c_this_gutter post := by
  have H := I.2.1.1
  obtain ⟨a0, a1, a2, a3, a4, a5, a6, a7, a8⟩ := id H
  unfold wp_X4_pass
  rw [forall_eq, forall_eq, I.2.1.at 3 (by omega) (by omega), show (1 : Int32) = nI 1 from rfl, pk_sub a3.1]
  by_cases c1 : (0 : Int32) ≤ x1 ∧ x1 ≤ nI (s 3 - 1)
  · refine r_inT c1 (no1 one0 (r_isNozzle I.2.1 ?_))
    by_cases c2 : (0 : Int32) ≤ x2 ∧ x2 ≤ nI (s 0 - 1)
    · rw [decide_eq_true c2]
      refine no1 one0 ?_
      by_cases c3 : (0 : Int32) ≤ x3 ∧ x3 ≤ 2
      · refine r_threeT c3 (no1 one0 ?_)
        rw [ans_in, if_pos ⟨c1, c2, c3⟩] at h
        obtain ⟨p, hp, e⟩ := (q_rng (by omega)).mp c1
        subst e
        obtain ⟨j, hj, e⟩ := (q_rng (by omega)).mp c2
        subst e
        obtain ⟨w, hw, e⟩ := (q_rng (n := 2) (by decide)).mp c3
        subst e
        rw [nI_clamp (by omega), nI_clamp (by omega), nI_clamp (by omega)] at h
        exact r_passOf I (by omega) (by omega) hw (fun u => h _)
      · rw [ans_in, if_neg (fun q => c3 q.2.2)] at h
        exact r_threeF c3 (yes1 rfl (h _))
    · rw [decide_eq_false c2]
      rw [ans_in, if_neg (fun q => c2 q.2.1)] at h
      exact yes1 rfl (h _)
  · rw [ans_in, if_neg (fun q => c1 q.1)] at h
    exact r_inF c1 (yes1 rfl (h _))
/-- drops -/
noncomputable def sDrops (s : Nat → Nat) (al : Nat → Nat → Bool) (d : Nat → Nat) (j : Nat) : Nat := pcn (gtb s al d j) + fb_sm (fun p => pdn s al d p j) (s 3)
theorem pdn_0 {s : Nat → Nat} {al : Nat → Nat → Bool} {d : Nat → Nat} {p j : Nat} (hp : s 3 ≤ p) (hj : j < 8) : pdn s al d p j = 0 := by
  refine pdv_no ?_
  rintro ⟨⟨y, i⟩, h1, h2⟩
  have hm := hs_mem (List.mem_of_getElem? h2)
  have : (8 * p + j) / 8 < s 3 := hm.1
  omega
theorem sm_tail {f : Nat → Nat} {a : Nat} (h : ∀ k, a ≤ k → f k = 0) : ∀ b, a ≤ b → fb_sm f b = fb_sm f a := by
  intro b
  induction b with
  | zero => intro hb; rw [show a = 0 by omega]
  | succ b ih =>
    intro hb
    by_cases e : a = b + 1
    · rw [e]
    · rw [fb_sm_succ, ih (by omega), h b (by omega), Nat.add_zero]
theorem s_dropsOf {s d : Nat → Nat} {al : Nat → Nat → Bool} {j : Nat} {c_this_head : Nat → Int32} {c_this_dotsPrinted : Nat → Int32} {c_this_gutter : Nat → Int32} {post : Int32 → Unit → Prop} (hh : Hd s c_this_head) (hD : DpOk s (stk s al d 16) c_this_dotsPrinted) (hG : GutC s al (PDv s (stk s al d 16)) c_this_gutter) (hj : j < 8) (h : post (nI (sDrops s al d j)) ()) : wp_X1_dropsOf (nI j) c_this_head c_this_dotsPrinted c_this_gutter post := by
  have H := hh.1
  obtain ⟨a0, a1, a2, a3, a4, a5, a6, a7, a8⟩ := id H
  unfold wp_X1_dropsOf
  refine ⟨vp_in_nI (by omega) (by omega), ?_⟩
  have e : c_this_gutter j = nI (gtb s al d j) := hG j (by omega)
  have hlt := gtb_lt H al d j
  rw [forall_eq, nI_clamp (by omega), e]
  refine s_bitCount hlt ?_
  have key : ∀ (m k : Nat), k ≤ s 3 → s 3 - k < m → wq_X1_dropsOf_12 c_this_head c_this_dotsPrinted c_this_gutter (nI j) post (fun e16 => post e16 ()) m (nI (pcn (gtb s al d j) + fb_sm (fun p => pdn s al d p j) k)) (nI k) := by
    intro m
    induction m with
    | zero => intro k g1 g2; omega
    | succ m ih =>
      intro k g1 g2
      unfold wq_X1_dropsOf_12
      rw [hh.at 3 (by omega) (by omega)]
      simp (disch := omega) only [nI_leI]
      refine ⟨fun q => ?_, fun q => ?_⟩
      · have e : k = s 3 := by omega
        subst e; exact h
      · have st := ih (k + 1) (by omega) (by omega)
        rw [fb_sm_succ, ← Nat.add_assoc] at st
        rw [forall_eq, forall_eq, show (8 : Int32) = nI 8 from rfl, pk_mul, nI_add]
        refine ⟨vp_in_nI (by omega) (by omega), ?_⟩
        rw [forall_eq, forall_eq, nI_clamp (by omega), dp_val H hD (by omega), nI_add, nI_1, Nat.mul_comm k 8]
        exact st
  exact ⟨s 3 + 1, key (s 3 + 1) 0 (by omega) (by omega)⟩
theorem s_drops {s d : Nat → Nat} {al : Nat → Nat → Bool} {x1 : Int32} {c_this_told_head : Nat → Int32} {c_this_told_dotsPrinted : Nat → Int32} {c_this_told_gutter : Nat → Int32} {post : Int32 → Unit → Prop} (hh : Hd s c_this_told_head) (hD : DpOk s (stk s al d 16) c_this_told_dotsPrinted) (hG : GutC s al (PDv s (stk s al d 16)) c_this_told_gutter) (h : post (ans_in ((0 : Int32) ≤ x1 ∧ x1 ≤ nI (s 0 - 1)) (nI (sDrops s al d x1.toNatClampNeg))) ()) : wp_X3_drops x1 c_this_told_head c_this_told_dotsPrinted c_this_told_gutter post := by
  unfold wp_X3_drops
  refine s_isNozzle hh ?_
  have a0 := hh.1.1
  by_cases c : ((0 : Int32) ≤ x1 ∧ x1 ≤ nI (s 0 - 1))
  · rw [decide_eq_true c]
    rw [ans_in, if_pos c] at h
    obtain ⟨j, hj, e⟩ := (q_rng (by omega)).mp c
    subst e
    rw [nI_clamp (by omega)] at h
    exact no1 one0 (s_dropsOf hh hD hG (by omega) h)
  · rw [decide_eq_false c]
    rw [ans_in, if_neg c] at h
    exact yes1 rfl h
theorem drops_sum {s d : Nat → Nat} (H : Hok s) {al : Nat → Nat → Bool} {j : Nat} (hj : j < s 0) : fb_sm (fun p => pdn s al d p j + (if (gtb s al d j).testBit p = true then 1 else 0)) 12 = sDrops s al d j := by
  rw [fb_sm_add, ← ct_sm, sm_tail (a := s 3) (fun k hk => pdn_0 hk (by have := H.1.2; omega)) 12 H.2.2.2.1.2, Nat.add_comm]; rfl
theorem r_dropsOf {d s : Nat → Nat} {n : Nat} {ek ea en : Nat → Nat} {j : Nat} {f_this_events : Int32} {f_this_notEvents : Int32} {f_this_deadNow : Int32} {f_this_allMissed : Int32} {f_this_allWanted : Int32} {f_this_allPrinted : Int32} {c_this_told : Nat → Int32} {c_this_head : Nat → Int32} {c_this_eventKind : Nat → Int32} {c_this_eventAt : Nat → Int32} {c_this_eventNozzle : Nat → Int32} {c_this_dots : Nat → Int32} {c_this_now : Nat → Int32} {c_this_hitMany : Nat → Int32} {c_this_hitPass : Nat → Int32} {c_this_hitNozzle : Nat → Int32} {c_this_hitPrints : Nat → Int32} {c_this_canMany : Nat → Int32} {c_this_printedBy : Nat → Int32} {c_this_missing : Nat → Int32} {c_this_prints : Nat → Int32} {c_this_gutter : Nat → Int32} {post : Int32 → (Int32 × Int32 × Int32 × Int32 × Int32 × (Nat → Int32) × (Nat → Int32) × (Nat → Int32) × (Nat → Int32) × (Nat → Int32) × (Nat → Int32) × (Nat → Int32) × (Nat → Int32) × (Nat → Int32) × (Nat → Int32) × (Nat → Int32)) → Prop} (I : RefI d s n ek ea en c_this_told c_this_head f_this_events c_this_eventKind c_this_eventAt c_this_eventNozzle) (hj : j < s 0) (h : ∀ u, post (nI (sDrops s (al0 n ek ea en) d j)) u) : wp_X4_dropsOf (nI j) f_this_events f_this_notEvents f_this_deadNow f_this_allMissed f_this_allWanted f_this_allPrinted c_this_told c_this_head c_this_eventKind c_this_eventAt c_this_eventNozzle c_this_dots c_this_now c_this_hitMany c_this_hitPass c_this_hitNozzle c_this_hitPrints c_this_canMany c_this_printedBy c_this_missing c_this_prints c_this_gutter post := by
  have H := I.2.1.1
  obtain ⟨a0, a1, a2, a3, a4, a5, a6, a7, a8⟩ := id H
  unfold wp_X4_dropsOf
  refine r_runsTold I (fun aM aW aP dots now hm hP hN hR cM pB mi pt gt i1 i2 i3 i4 => ?_)
  have key : ∀ (Ke : Int32 → Prop), Ke (nI (sDrops s (al0 n ek ea en) d j)) → ∀ (m k : Nat), k ≤ 12 → 12 - k < m → wq_X4_dropsOf_8 f_this_events c_this_told c_this_head c_this_eventKind c_this_eventAt c_this_eventNozzle (nI j) 0 (-1) aM aW aP dots now hm hP hN hR cM pB mi pt gt post Ke m (nI (fb_sm (fun p => pdn s (al0 n ek ea en) d p j + (if (gtb s (al0 n ek ea en) d j).testBit p = true then 1 else 0)) k)) (nI k) := by
    intro Ke hK m
    induction m with
    | zero => intro k g1 g2; omega
    | succ m ih =>
      intro k g1 g2
      unfold wq_X4_dropsOf_8
      rw [show (12 : Int32) = nI 12 from rfl, nI_leI (by omega) (by omega)]
      refine ⟨fun q => ?_, fun q => ?_⟩
      · have e : k = 12 := by omega
        subst e; rw [drops_sum H hj]; exact hK
      · have st := ih (k + 1) (by omega) (by omega)
        rw [fb_sm_succ] at st
        have e := i4.2.2 k (by omega) j (by omega)
        have e2 : (if j < s 0 ∧ (gu s (al0 n ek ea en) (PDv s (stk s (al0 n ek ea en) d 16)) j (s 3)).2.testBit k = true then 1 else 0) = (if (gtb s (al0 n ek ea en) d j).testBit k = true then 1 else 0) := by
          unfold gtb
          simp [hj]
        rw [e2] at e
        rw [forall_eq, forall_eq, show (8 : Int32) = nI 8 from rfl, pk_mul, nI_add]
        refine ⟨vp_in_nI (by omega) (by omega), ?_⟩
        rw [forall_eq, forall_eq, forall_eq, nI_clamp (by omega), nI_add]
        refine ⟨vp_in_nI (by omega) (by omega), ?_⟩
        rw [forall_eq, forall_eq, nI_clamp (by omega), e, dp_val H i4.2.1.2.2.2.2.2.2 (by omega), nI_add, nI_add, nI_1]
        exact st
  exact ⟨13, key _ (h _) 13 0 (by omega) (by omega)⟩
theorem r_drops {d s : Nat → Nat} {n : Nat} {ek ea en : Nat → Nat} {x1 : Int32} {f_this_events : Int32} {f_this_notEvents : Int32} {f_this_deadNow : Int32} {f_this_allMissed : Int32} {f_this_allWanted : Int32} {f_this_allPrinted : Int32} {c_this_told : Nat → Int32} {c_this_head : Nat → Int32} {c_this_eventKind : Nat → Int32} {c_this_eventAt : Nat → Int32} {c_this_eventNozzle : Nat → Int32} {c_this_dots : Nat → Int32} {c_this_now : Nat → Int32} {c_this_hitMany : Nat → Int32} {c_this_hitPass : Nat → Int32} {c_this_hitNozzle : Nat → Int32} {c_this_hitPrints : Nat → Int32} {c_this_canMany : Nat → Int32} {c_this_printedBy : Nat → Int32} {c_this_missing : Nat → Int32} {c_this_prints : Nat → Int32} {c_this_gutter : Nat → Int32} {post : Int32 → (Int32 × Int32 × Int32 × Int32 × Int32 × (Nat → Int32) × (Nat → Int32) × (Nat → Int32) × (Nat → Int32) × (Nat → Int32) × (Nat → Int32) × (Nat → Int32) × (Nat → Int32) × (Nat → Int32) × (Nat → Int32) × (Nat → Int32)) → Prop} (I : RefI d s n ek ea en c_this_told c_this_head f_this_events c_this_eventKind c_this_eventAt c_this_eventNozzle) (h : ∀ u, post (ans_in ((0 : Int32) ≤ x1 ∧ x1 ≤ nI (s 0 - 1)) (nI (sDrops s (al0 n ek ea en) d x1.toNatClampNeg))) u) : wp_X4_drops x1 f_this_events f_this_notEvents f_this_deadNow f_this_allMissed f_this_allWanted f_this_allPrinted c_this_told c_this_head c_this_eventKind c_this_eventAt c_this_eventNozzle c_this_dots c_this_now c_this_hitMany c_this_hitPass c_this_hitNozzle c_this_hitPrints c_this_canMany c_this_printedBy c_this_missing c_this_prints c_this_gutter post := by
  unfold wp_X4_drops
  have a0 := I.2.1.1.1
  refine r_isNozzle I.2.1 ?_
  by_cases c : ((0 : Int32) ≤ x1 ∧ x1 ≤ nI (s 0 - 1))
  · rw [decide_eq_true c]
    rw [ans_in, if_pos c] at h
    obtain ⟨j, hj, e⟩ := (q_rng (by omega)).mp c
    subst e
    rw [nI_clamp (by omega)] at h
    exact no1 one0 (r_dropsOf I (by omega) (fun u => h _))
  · rw [decide_eq_false c]
    rw [ans_in, if_neg c] at h
    exact yes1 rfl (h _)
/-- even -/
def mnl (s : Nat → Nat) (B : Nat) : Nat → Nat
  | 0 => B
  | k + 1 => if (hs s k).length < mnl s B k then (hs s k).length else mnl s B k
def mxh (s : Nat → Nat) : Nat → Nat
  | 0 => 0
  | k + 1 => if mxh s k < (hs s k).length then (hs s k).length else mxh s k
def one1 (s : Nat → Nat) : Nat → Nat := fb_ct (fun y => decide ((hs s y).length = 1))
def aEven (s : Nat → Nat) (w : Nat) : Int32 := nI (if w = 0 then mnl s 12 16 else if w = 1 then mxh s 16 else one1 s 16)
theorem mnl_eq {s : Nat → Nat} (H : Hok s) : mnl s 99 16 = mnl s 12 16 := by
  have key : ∀ k, mnl s 99 (k + 1) = mnl s 12 (k + 1) := by
    intro k
    induction k with
    | zero =>
      have := hs_len12 H 0
      show (if (hs s 0).length < 99 then (hs s 0).length else 99) = (if (hs s 0).length < 12 then (hs s 0).length else 12)
      rw [if_pos (by omega)]
      by_cases c : (hs s 0).length < 12
      · rw [if_pos c]
      · rw [if_neg c]; omega
    | succ k ih => rw [mnl, ih]; rfl
  exact key 15
theorem mnl_le (s : Nat → Nat) (B : Nat) : ∀ k, mnl s B k ≤ B := by
  intro k
  induction k with
  | zero => exact Nat.le_refl _
  | succ k ih =>
    unfold mnl
    by_cases c : (hs s k).length < mnl s B k
    · rw [if_pos c]; omega
    · rw [if_neg c]; exact ih
theorem mxh_le {s : Nat → Nat} (H : Hok s) : ∀ k, mxh s k ≤ 12 := by
  intro k
  induction k with
  | zero => exact Nat.zero_le _
  | succ k ih =>
    unfold mxh
    by_cases c : mxh s k < (hs s k).length
    · rw [if_pos c]; exact hs_len12 H k
    · rw [if_neg c]; exact ih
theorem q_min {a b : Nat} (ha : a < 2 ^ 31) (hb : b < 2 ^ 31) : (if nI a < nI b then nI a else nI b) = nI (if a < b then a else b) := by
  by_cases c : a < b
  · rw [if_pos c, if_pos ((nI_ltI ha hb).mpr c)]
  · rw [if_neg c, if_neg (fun q => c ((nI_ltI ha hb).mp q))]
theorem q_max {a b : Nat} (ha : a < 2 ^ 31) (hb : b < 2 ^ 31) : (if nI a < nI b then nI b else nI a) = nI (if a < b then b else a) := by
  by_cases c : a < b
  · rw [if_pos c, if_pos ((nI_ltI ha hb).mpr c)]
  · rw [if_neg c, if_neg (fun q => c ((nI_ltI ha hb).mp q))]
theorem s_even {s : Nat → Nat} {x1 : Int32} {c_this_told_hitCount : Nat → Int32} {post : Int32 → Unit → Prop} (H : Hok s) (hp : CntOk s (prs (s 0) (s 3)) c_this_told_hitCount) (h : post (ans_in ((0 : Int32) ≤ x1 ∧ x1 ≤ 2) (aEven s x1.toNatClampNeg)) ()) : wp_X3_even x1 c_this_told_hitCount post := by
  unfold wp_X3_even
  by_cases c : (0 : Int32) ≤ x1 ∧ x1 ≤ 2
  · rw [ans_in, if_pos c] at h
    refine s_withinT c (no2 one0 ?_)
    obtain ⟨w, hw, e⟩ := (q_rng (n := 2) (by decide)).mp c
    subst e
    rw [nI_clamp (by omega)] at h
    have key : ∀ (Ke : Int32 → Int32 → Int32 → Prop), Ke (nI (mnl s 12 16)) (nI (mxh s 16)) (nI (one1 s 16)) → ∀ (m k : Nat), k ≤ 16 → 16 - k < m → wq_X3_even_37 c_this_told_hitCount (nI w) 16 post Ke m (nI (mnl s 12 k)) (nI (mxh s k)) (nI (one1 s k)) (nI k) := by
      intro Ke hK m
      induction m with
      | zero => intro k g1 g2; omega
      | succ m ih =>
        intro k g1 g2
        unfold wq_X3_even_37
        rw [show (16 : Int32) = nI 16 from rfl, nI_leI (by omega) (by omega)]
        refine ⟨fun q => ?_, fun q => ?_⟩
        · have e : k = 16 := by omega
          subst e; exact hK
        · have st := ih (k + 1) (by omega) (by omega)
          have l1 := hs_len12 H k
          have l2 := mnl_le s 12 k
          have l3 := mxh_le H k
          have ec : c_this_told_hitCount k = nI (hs s k).length := hp k (by omega)
          refine ⟨vp_in_nI (by omega) (by omega), ?_⟩
          simp only [forall_eq]
          rw [nI_clamp (by omega), ec, q_min (by omega) (by omega), q_max (by omega) (by omega), show (1 : Int32) = nI 1 from rfl, nI_eq (by omega) (by omega), show (0 : Int32) = nI 0 from rfl, nI_add, nI_add, nI_add, Nat.add_zero]
          have e1 : one1 s (k + 1) = one1 s k + (if (hs s k).length = 1 then 1 else 0) := by
            unfold one1; rw [fb_ct_succ]; simp
          rw [e1] at st
          by_cases c1 : (hs s k).length = 1
          · rw [if_pos c1] at st; exact yes2 c1 st
          · rw [if_neg c1] at st; exact no2 c1 st
    refine ⟨17, key _ ?_ 17 0 (by omega) (by omega)⟩
    rw [show (1 : Int32) = nI 1 from rfl, show (0 : Int32) = nI 0 from rfl, nI_eq (by omega) (by omega), nI_eq (by omega) (by omega)]
    unfold aEven at h
    by_cases w0 : w = 0
    · rw [if_pos w0] at h; exact yes2 w0 h
    · rw [if_neg w0] at h
      refine no2 w0 ?_
      by_cases w1 : w = 1
      · rw [if_pos w1] at h; exact yes2 w1 h
      · rw [if_neg w1] at h; exact no2 w1 h
  · rw [ans_in, if_neg c] at h
    exact s_withinF c (yes2 rfl h)
theorem r_evenOf {d s : Nat → Nat} {n : Nat} {ek ea en : Nat → Nat} {w : Nat} {f_this_events : Int32} {f_this_notEvents : Int32} {f_this_deadNow : Int32} {f_this_allMissed : Int32} {f_this_allWanted : Int32} {f_this_allPrinted : Int32} {c_this_told : Nat → Int32} {c_this_head : Nat → Int32} {c_this_eventKind : Nat → Int32} {c_this_eventAt : Nat → Int32} {c_this_eventNozzle : Nat → Int32} {c_this_dots : Nat → Int32} {c_this_now : Nat → Int32} {c_this_hitMany : Nat → Int32} {c_this_hitPass : Nat → Int32} {c_this_hitNozzle : Nat → Int32} {c_this_hitPrints : Nat → Int32} {c_this_canMany : Nat → Int32} {c_this_printedBy : Nat → Int32} {c_this_missing : Nat → Int32} {c_this_prints : Nat → Int32} {c_this_gutter : Nat → Int32} {post : Int32 → (Int32 × Int32 × Int32 × Int32 × Int32 × (Nat → Int32) × (Nat → Int32) × (Nat → Int32) × (Nat → Int32) × (Nat → Int32) × (Nat → Int32) × (Nat → Int32) × (Nat → Int32) × (Nat → Int32) × (Nat → Int32) × (Nat → Int32)) → Prop} (I : RefI d s n ek ea en c_this_told c_this_head f_this_events c_this_eventKind c_this_eventAt c_this_eventNozzle) (hw : w ≤ 2) (h : ∀ u, post (aEven s w) u) : wp_X4_evenOf (nI w) f_this_events f_this_notEvents f_this_deadNow f_this_allMissed f_this_allWanted f_this_allPrinted c_this_told c_this_head c_this_eventKind c_this_eventAt c_this_eventNozzle c_this_dots c_this_now c_this_hitMany c_this_hitPass c_this_hitNozzle c_this_hitPrints c_this_canMany c_this_printedBy c_this_missing c_this_prints c_this_gutter post := by
  have H := I.2.1.1
  unfold wp_X4_evenOf
  refine r_runsTold I (fun aM aW aP dots now hm hP hN hR cM pB mi pt gt i1 i2 i3 i4 => ?_)
  have key : ∀ (Ke : Int32 → Int32 → Int32 → Prop), Ke (nI (mnl s 99 16)) (nI (mxh s 16)) (nI (one1 s 16)) → ∀ (m k : Nat), k ≤ 16 → 16 - k < m → wq_X4_evenOf_15 f_this_events c_this_told c_this_head c_this_eventKind c_this_eventAt c_this_eventNozzle (nI w) 0 (-1) aM aW aP dots now hm hP hN hR cM pB mi pt gt post Ke m (nI (mnl s 99 k)) (nI (mxh s k)) (nI (one1 s k)) (nI k) := by
    intro Ke hK m
    induction m with
    | zero => intro k g1 g2; omega
    | succ m ih =>
      intro k g1 g2
      unfold wq_X4_evenOf_15
      rw [show (16 : Int32) = nI 16 from rfl, nI_leI (by omega) (by omega)]
      refine ⟨fun q => ?_, fun q => ?_⟩
      · have e : k = 16 := by omega
        subst e; exact hK
      · have st := ih (k + 1) (by omega) (by omega)
        have l1 := hs_len12 H k
        have l2 := mnl_le s 99 k
        have l3 := mxh_le H k
        have ec : hm k = nI (hs s k).length := i4.1.cnt (by omega)
        have e1 : one1 s (k + 1) = one1 s k + (if (hs s k).length = 1 then 1 else 0) := by
          unfold one1; rw [fb_ct_succ]; simp
        rw [e1] at st
        have j2 : ∀ v2 v3, v2 = mnl s 99 (k + 1) → v3 = mxh s (k + 1) → wq_X4_evenOf_67 f_this_events c_this_told c_this_head c_this_eventKind c_this_eventAt c_this_eventNozzle (nI w) 0 (-1) aM aW aP dots now hm hP hN hR cM pB mi pt gt post (wq_X4_evenOf_15 f_this_events c_this_told c_this_head c_this_eventKind c_this_eventAt c_this_eventNozzle (nI w) 0 (-1) aM aW aP dots now hm hP hN hR cM pB mi pt gt post Ke m) Ke (nI v2) (nI (one1 s k)) (nI k) (nI v3) := by
          intro v2 v3 h2 h3
          unfold wq_X4_evenOf_67
          refine ⟨vp_in_nI (by omega) (by omega), ?_⟩
          simp only [forall_eq]
          rw [nI_clamp (by omega), ec, show (1 : Int32) = nI 1 from rfl, nI_eq (by omega) (by omega), show (0 : Int32) = nI 0 from rfl, nI_add, nI_add, nI_add, Nat.add_zero, h2, h3]
          by_cases c1 : (hs s k).length = 1
          · rw [if_pos c1] at st; exact yes2 c1 st
          · rw [if_neg c1] at st; exact no2 c1 st
        have j1 : ∀ v2, v2 = mnl s 99 (k + 1) → wq_X4_evenOf_44 f_this_events c_this_told c_this_head c_this_eventKind c_this_eventAt c_this_eventNozzle (nI w) 0 (-1) aM aW aP dots now hm hP hN hR cM pB mi pt gt post (wq_X4_evenOf_15 f_this_events c_this_told c_this_head c_this_eventKind c_this_eventAt c_this_eventNozzle (nI w) 0 (-1) aM aW aP dots now hm hP hN hR cM pB mi pt gt post Ke m) Ke (nI (mxh s k)) (nI (one1 s k)) (nI k) (nI v2) := by
          intro v2 h2
          unfold wq_X4_evenOf_44
          refine ⟨vp_in_nI (by omega) (by omega), ?_⟩
          simp only [forall_eq]
          rw [nI_clamp (by omega), ec, nI_leI (by omega) (by omega)]
          refine ⟨fun c => j2 v2 _ h2 (by rw [mxh, if_neg (by omega)]), fun c => ⟨vp_in_nI (by omega) (by omega), j2 v2 _ h2 (by rw [mxh, if_pos (by omega)])⟩⟩
        refine ⟨vp_in_nI (by omega) (by omega), ?_⟩
        simp only [forall_eq]
        rw [nI_clamp (by omega), ec, nI_leI (by omega) (by omega)]
        have z1 : mnl s 99 k ≤ (hs s k).length → mnl s 99 k = mnl s 99 (k + 1) := fun c => by rw [mnl, if_neg (by omega)]
        have z2 : ¬ mnl s 99 k ≤ (hs s k).length → (hs s k).length = mnl s 99 (k + 1) := fun c => by rw [mnl, if_pos (by omega)]
        exact ⟨fun c => j1 _ (z1 c), fun c => ⟨vp_in_nI (by omega) (by omega), j1 _ (z2 c)⟩⟩
  refine ⟨17, key _ ?_ 17 0 (by omega) (by omega)⟩
  rw [mnl_eq H, show (1 : Int32) = nI 1 from rfl, show (0 : Int32) = nI 0 from rfl, nI_eq (by omega) (by omega), nI_eq (by omega) (by omega)]
  unfold aEven at h
  by_cases w0 : w = 0
  · simp only [if_pos w0] at h; exact yes2 w0 (h _)
  · simp only [if_neg w0] at h
    refine no2 w0 ?_
    by_cases w1 : w = 1
    · simp only [if_pos w1] at h; exact yes2 w1 (h _)
    · simp only [if_neg w1] at h; exact no2 w1 (h _)
theorem r_even {d s : Nat → Nat} {n : Nat} {ek ea en : Nat → Nat} {x1 : Int32} {f_this_events : Int32} {f_this_notEvents : Int32} {f_this_deadNow : Int32} {f_this_allMissed : Int32} {f_this_allWanted : Int32} {f_this_allPrinted : Int32} {c_this_told : Nat → Int32} {c_this_head : Nat → Int32} {c_this_eventKind : Nat → Int32} {c_this_eventAt : Nat → Int32} {c_this_eventNozzle : Nat → Int32} {c_this_dots : Nat → Int32} {c_this_now : Nat → Int32} {c_this_hitMany : Nat → Int32} {c_this_hitPass : Nat → Int32} {c_this_hitNozzle : Nat → Int32} {c_this_hitPrints : Nat → Int32} {c_this_canMany : Nat → Int32} {c_this_printedBy : Nat → Int32} {c_this_missing : Nat → Int32} {c_this_prints : Nat → Int32} {c_this_gutter : Nat → Int32} {post : Int32 → (Int32 × Int32 × Int32 × Int32 × Int32 × (Nat → Int32) × (Nat → Int32) × (Nat → Int32) × (Nat → Int32) × (Nat → Int32) × (Nat → Int32) × (Nat → Int32) × (Nat → Int32) × (Nat → Int32) × (Nat → Int32) × (Nat → Int32)) → Prop} (I : RefI d s n ek ea en c_this_told c_this_head f_this_events c_this_eventKind c_this_eventAt c_this_eventNozzle) (h : ∀ u, post (ans_in ((0 : Int32) ≤ x1 ∧ x1 ≤ 2) (aEven s x1.toNatClampNeg)) u) : wp_X4_even x1 f_this_events f_this_notEvents f_this_deadNow f_this_allMissed f_this_allWanted f_this_allPrinted c_this_told c_this_head c_this_eventKind c_this_eventAt c_this_eventNozzle c_this_dots c_this_now c_this_hitMany c_this_hitPass c_this_hitNozzle c_this_hitPrints c_this_canMany c_this_printedBy c_this_missing c_this_prints c_this_gutter post := by
  unfold wp_X4_even
  by_cases c : (0 : Int32) ≤ x1 ∧ x1 ≤ 2
  · rw [ans_in, if_pos c] at h
    refine r_threeT c (no1 one0 ?_)
    obtain ⟨w, hw, e⟩ := (q_rng (n := 2) (by decide)).mp c
    subst e
    rw [nI_clamp (by omega)] at h
    exact r_evenOf I hw (fun u => h _)
  · rw [ans_in, if_neg c] at h
    exact r_threeF c (yes1 rfl (h _))
