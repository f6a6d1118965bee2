/-! what was seen: never, was -/
def SeenOk (sn : Nat) (sl sm : Nat → Nat) (sz : Int32) (cl cm' : Nat → Int32) : Prop := sn ≤ 8 ∧ sz = nI sn ∧ ∀ i, i < sn → cl i = nI (sl i) ∧ cm' i = nI (sm i) ∧ sl i < 16 ∧ sm i ≤ 8
def fits (s d : Nat → Nat) (sn : Nat) (sl sm : Nat → Nat) (al : Nat → Nat → Bool) (c : Nat) : Bool := decide (∀ i, i < sn → fw s al c (d (sl i)) (sl i) = sm i)
theorem s_fitsSeen {s d : Nat → Nat} {al : Nat → Nat → Bool} {c : Nat} {sn : Nat} {sl sm : Nat → Nat} {f_this_seenSize : Int32} {c_this_told_picture : Nat → Int32} {c_this_told_head : Nat → Int32} {c_this_told_hitCount : Nat → Int32} {c_this_told_hitPlace : Nat → Int32} {c_this_living : Nat → Int32} {c_this_seenLine : Nat → Int32} {c_this_seenMany : Nat → Int32} {post : Int32 → Unit → Prop} (hh : Hd s c_this_told_head) (hp : PicOk d c_this_told_picture) (hH : ClsH s c_this_told_hitCount c_this_told_hitPlace) (S : SeenOk sn sl sm f_this_seenSize c_this_seenLine c_this_seenMany) (hL : LivOk al c_this_living) (hc : c ≤ 8) (h : post (b01 (fits s d sn sl sm al c)) ()) : wp_X3_fitsSeen (nI c) f_this_seenSize c_this_told_picture c_this_told_head c_this_told_hitCount c_this_told_hitPlace c_this_living c_this_seenLine c_this_seenMany post := by
  obtain ⟨s1, s2, s3⟩ := S
  have H := hh.1
  unfold wp_X3_fitsSeen
  have key : ∀ (m k : Nat), k ≤ sn → sn - k < m → (∀ i, i < k → fw s al c (d (sl i)) (sl i) = sm i) → wq_X3_fitsSeen_2 f_this_seenSize c_this_told_picture c_this_told_head c_this_told_hitCount c_this_told_hitPlace c_this_living c_this_seenLine c_this_seenMany (nI c) post (post 1 ()) m (nI k) := by
    intro m
    induction m with
    | zero => intro k g1 g2; omega
    | succ m ih =>
      intro k g1 g2 hI
      unfold wq_X3_fitsSeen_2
      rw [s2, nI_leI (by omega) (by omega)]
      refine ⟨fun q => ?_, fun q => ?_⟩
      · have e : k = sn := by omega
        subst e
        rw [show fits s d k sl sm al c = true from decide_eq_true hI] at h
        exact h
      · obtain ⟨t1, t2, t3, t4⟩ := s3 k (by omega)
        refine ⟨vp_in_nI (by omega) (by omega), ?_⟩
        rw [forall_eq, nI_clamp (by omega), t1]
        refine s_fewestMissed hh hH hL t3 hc (hp _ t3).1 (hp _ t3).2 ⟨vp_in_nI (by omega) (by omega), ?_⟩
        have hfw := fw_le (s := s) H.2.2.2.2.2.2.2.1 (al := al) (c := c) (d := d (sl k)) (y := sl k)
        rw [t2, nI_eq (by omega) (by omega), forall_eq, nI_1]
        refine ⟨fun e => ?_, fun e => ?_⟩
        · have := ih (k + 1) (by omega) (by omega) (fun i hi => by
            by_cases ei : i = k
            · subst ei; exact e
            · exact hI i (by omega))
          rw [s2] at this
          exact this
        · rw [show fits s d sn sl sm al c = false from decide_eq_false (fun z => e (z k (by omega)))] at h
          exact h
  exact ⟨sn + 1, key (sn + 1) 0 (by omega) (by omega) (fun i hi => by omega)⟩
theorem r_isSeen {s d : Nat → Nat} {al : Nat → Nat → Bool} {sn : Nat} {sl sm : Nat → Nat} {f_this_events : Int32} {f_this_notEvents : Int32} {f_this_deadNow : Int32} {f_this_allMissed : Int32} {f_this_allWanted : Int32} {f_this_allPrinted : Int32} {f_this_seens : Int32} {c_this_eventKind : Nat → Int32} {c_this_eventAt : Nat → Int32} {c_this_eventNozzle : Nat → Int32} {c_this_dots : Nat → Int32} {c_this_now : Nat → Int32} {c_this_hitMany : Nat → Int32} {c_this_hitPass : Nat → Int32} {c_this_hitNozzle : Nat → Int32} {c_this_hitPrints : Nat → Int32} {c_this_canMany : Nat → Int32} {c_this_printedBy : Nat → Int32} {c_this_missing : Nat → Int32} {c_this_prints : Nat → Int32} {c_this_gutter : Nat → Int32} {c_this_seenLine : Nat → Int32} {c_this_seenMany : Nat → Int32} {post : Int32 → (Int32 × Int32 × Int32 × (Nat → Int32) × (Nat → Int32) × (Nat → Int32) × (Nat → Int32) × (Nat → Int32) × (Nat → Int32) × (Nat → Int32) × (Nat → Int32) × (Nat → Int32)) → Prop} (hh : Hd s c_this_now) (hA : RAlv al f_this_events f_this_notEvents f_this_deadNow c_this_eventKind c_this_eventAt c_this_eventNozzle) (hpic : PicOk d c_this_dots) (S : SeenOk sn sl sm f_this_seens c_this_seenLine c_this_seenMany) (h : ∀ aM aW aP hm hP hN hR cM pB mi pt gt, (∀ y, y < 16 → mi y = nI (fin s al (d y) y).2.2.1) → post (b01 (fits s d sn sl sm al (s 5))) (aM, aW, aP, hm, hP, hN, hR, cM, pB, mi, pt, gt)) : wp_X4_isSeen f_this_events f_this_notEvents f_this_deadNow f_this_allMissed f_this_allWanted f_this_allPrinted f_this_seens c_this_eventKind c_this_eventAt c_this_eventNozzle c_this_dots c_this_now c_this_hitMany c_this_hitPass c_this_hitNozzle c_this_hitPrints c_this_canMany c_this_printedBy c_this_missing c_this_prints c_this_gutter c_this_seenLine c_this_seenMany post := by
  obtain ⟨s1, s2, s3⟩ := S
  have H := hh.1
  unfold wp_X4_isSeen
  refine r_runs hh hA hpic (fun aM aW aP hm hP hN hR cM pB mi pt gt hRun => ?_)
  have hmi : ∀ y, y < 16 → mi y = nI (fin s al (d y) y).2.2.1 := fun y hy => by
    have := hRun.2.1.2.2.2.2.2.1 y hy
    rw [stk_at hy] at this
    exact this
  have h := h aM aW aP hm hP hN hR cM pB mi pt gt hmi
  have key : ∀ (Ke : Int32 → Prop), Ke (b01 (fits s d sn sl sm al (s 5))) → ∀ (m k : Nat) (b : Bool), k ≤ sn → sn - k < m → b = decide (∀ i, i < k → fw s al (s 5) (d (sl i)) (sl i) = sm i) → wq_X4_isSeen_8 f_this_events f_this_notEvents f_this_deadNow f_this_seens c_this_eventKind c_this_eventAt c_this_eventNozzle c_this_dots c_this_now c_this_seenLine c_this_seenMany aM aW aP hm hP hN hR cM pB mi pt gt post Ke m (b01 b) (nI k) := by
    intro Ke hK m
    induction m with
    | zero => intro k b g1 g2; omega
    | succ m ih =>
      intro k b g1 g2 hI
      unfold wq_X4_isSeen_8
      rw [s2, nI_leI (by omega) (by omega)]
      refine ⟨fun q => ?_, fun q => ?_⟩
      · have e : k = sn := by omega
        subst e
        rw [hI]; exact hK
      · rw [b01_0]
        refine ⟨fun c => ?_, fun c => ?_⟩
        · have e : fits s d sn sl sm al (s 5) = b := by
            rw [c]
            rw [c] at hI
            have hI := of_decide_eq_false hI.symm
            exact decide_eq_false (fun z => hI (fun i hi => z i (by omega)))
          rw [e] at hK; exact hK
        · have hb : b = true := by cases b with | false => exact absurd rfl c | true => rfl
          rw [hb] at hI
          have hI := of_decide_eq_true hI.symm
          obtain ⟨t1, t2, t3, t4⟩ := s3 k (by omega)
          refine ⟨vp_in_nI (by omega) (by omega), ?_⟩
          rw [forall_eq, nI_clamp (by omega), t1]
          refine ⟨vp_in_nI (by omega) (by omega), ?_⟩
          rw [forall_eq, nI_clamp (by omega), hmi _ t3]
          have fn := fin_nums s al (d (sl k)) (sl k)
          refine r_many (by omega) ⟨vp_in_nI (by omega) (by omega), ?_⟩
          rw [fn.2.1, fin_ms H]
          have hfw := fw_le (s := s) H.2.2.2.2.2.2.2.1 (al := al) (c := s 5) (d := d (sl k)) (y := sl k)
          simp only [forall_eq]
          rw [t2, nI_eq (by omega) (by omega), nI_1]
          rw [← s2]
          refine ⟨fun e => ?_, fun e => ?_⟩
          · exact ih (k + 1) false (by omega) (by omega) (decide_eq_false (fun z => e (z k (by omega)))).symm
          · exact ih (k + 1) true (by omega) (by omega) (decide_eq_true (fun i hi => by
              by_cases ei : i = k
              · subst ei; exact e
              · exact hI i (by omega))).symm
  refine ⟨sn + 1, key _ ?_ (sn + 1) 0 true (by omega) (by omega) (decide_eq_true (fun i hi => by omega)).symm⟩
  exact ⟨(b01_or _).mpr trivial, h⟩
/-- bits, one by one -/
def bts (P : Nat → Bool) : Nat → Nat
  | 0 => 0
  | k + 1 => if P k = true then bts P k ||| 2 ^ k else bts P k
theorem bts_lt (P : Nat → Bool) : ∀ k, bts P k < 2 ^ k := by
  intro k
  induction k with
  | zero => exact Nat.lt_succ_self 0
  | succ k ih =>
    have : 2 ^ k < 2 ^ (k + 1) := Nat.pow_lt_pow_right (by decide) (by omega)
    unfold bts
    by_cases c : P k = true
    · rw [if_pos c]; exact Nat.or_lt_two_pow (by omega) this
    · rw [if_neg c]; omega
theorem bts_bit (P : Nat → Bool) : ∀ n k, (bts P n).testBit k = (decide (k < n) && P k) := by
  intro n
  induction n with
  | zero => intro k; rw [show bts P 0 = 0 from rfl, Nat.zero_testBit]; simp
  | succ n ih =>
    intro k
    unfold bts
    by_cases c : P n = true
    · rw [if_pos c, tb_or, ih k]
      by_cases e : k = n
      · subst e; simp [c]
      · have : decide (k < n + 1) = decide (k < n) := by simp only [decide_eq_decide]; omega
        rw [decide_eq_false e, Bool.or_false, this]
    · rw [if_neg c, ih k]
      by_cases e : k = n
      · subst e; simp [c]
      · have : decide (k < n + 1) = decide (k < n) := by simp only [decide_eq_decide]; omega
        rw [this]
def nvP (s d : Nat → Nat) (n : Nat) (ek ea en : Nat → Nat) (sn : Nat) (sl sm : Nat → Nat) (e : Nat) : Bool := fits s d sn sl sm (alN n ek ea en (2 ^ e)) (s 5)
theorem s_never {s d : Nat → Nat} {n : Nat} {ek ea en : Nat → Nat} {sn : Nat} {sl sm : Nat → Nat} {f_this_seenSize : Int32} {c_this_told_picture : Nat → Int32} {c_this_told_head : Nat → Int32} {c_this_told_hitCount : Nat → Int32} {c_this_told_hitPlace : Nat → Int32} {f_this_events_size : Int32} {c_this_events_kinds : Nat → Int32} {c_this_events_passes : Nat → Int32} {c_this_events_nozzles : Nat → Int32} {c_this_living : Nat → Int32} {c_this_seenLine : Nat → Int32} {c_this_seenMany : Nat → Int32} {post : Int32 → ((Nat → Int32)) → Prop} (hh : Hd s c_this_told_head) (hp : PicOk d c_this_told_picture) (hH : ClsH s c_this_told_hitCount c_this_told_hitPlace) (hE : EvOk n ek ea en c_this_events_kinds c_this_events_passes c_this_events_nozzles) (hs' : f_this_events_size = nI n) (S : SeenOk sn sl sm f_this_seenSize c_this_seenLine c_this_seenMany) (h : ∀ l, post (nI (bts (nvP s d n ek ea en sn sl sm) n)) l) : wp_X3_never f_this_seenSize c_this_told_picture c_this_told_head c_this_told_hitCount c_this_told_hitPlace f_this_events_size c_this_events_kinds c_this_events_passes c_this_events_nozzles c_this_living c_this_seenLine c_this_seenMany post := by
  have hn := hE.1
  have H := hh.1
  unfold wp_X3_never
  have key : ∀ (m k : Nat) (l : Nat → Int32), k ≤ n → n - k < m → wq_X3_never_4 f_this_seenSize c_this_told_picture c_this_told_head c_this_told_hitCount c_this_told_hitPlace f_this_events_size c_this_events_kinds c_this_events_passes c_this_events_nozzles c_this_seenLine c_this_seenMany post (fun e21 d22 => post e21 d22) m (nI (bts (nvP s d n ek ea en sn sl sm) k)) (nI k) l := by
    intro m
    induction m with
    | zero => intro k l g1 g2; omega
    | succ m ih =>
      intro k l g1 g2
      unfold wq_X3_never_4
      rw [hs', nI_leI (by omega) (by omega)]
      refine ⟨fun q => ?_, fun q => ?_⟩
      · have e : k = n := by omega
        subst e; exact h l
      · refine s_all hn ?_
        rw [forall_eq, forall_eq, q_1sh (by omega), q_but]
        refine s_livingBy hE (by have := cbn_lt (ne := 2 ^ k) hn; have := pw8 hn; omega) (fun l hL => ?_)
        rw [alv_cong (c2 := fun e => !(2 ^ k).testBit e) (fun e he => cbn_bit he)] at hL
        have hL : LivOk (alN n ek ea en (2 ^ k)) l := hL
        rw [forall_eq, hh.at 5 (by omega) (by omega)]
        refine s_fitsSeen hh hp hH S hL H.2.2.2.2.2.1.2 ?_
        rw [b01_0]
        have st := ih (k + 1) l (by omega) (by omega)
        rw [hs'] at st
        unfold bts at st
        simp only [forall_eq]
        rw [fa_or, nI_1]
        cases hc : fits s d sn sl sm (alN n ek ea en (2 ^ k)) (s 5) with
        | false =>
          rw [show nvP s d n ek ea en sn sl sm k = false from hc, if_neg (by decide)] at st
          exact yes1 rfl st
        | true =>
          rw [show nvP s d n ek ea en sn sl sm k = true from hc, if_pos rfl] at st
          exact no1 (by decide) st
  exact ⟨n + 1, key (n + 1) 0 _ (by omega) (by omega)⟩
theorem r_neverNow {d s : Nat → Nat} {n : Nat} {ek ea en : Nat → Nat} {sn : Nat} {sl sm : Nat → Nat} {f_this_events : Int32} {f_this_notEvents : Int32} {f_this_deadNow : Int32} {f_this_allMissed : Int32} {f_this_allWanted : Int32} {f_this_allPrinted : Int32} {f_this_seens : Int32} {c_this_told : Nat → Int32} {c_this_head : Nat → Int32} {c_this_eventKind : Nat → Int32} {c_this_eventAt : Nat → Int32} {c_this_eventNozzle : Nat → Int32} {c_this_dots : Nat → Int32} {c_this_now : Nat → Int32} {c_this_hitMany : Nat → Int32} {c_this_hitPass : Nat → Int32} {c_this_hitNozzle : Nat → Int32} {c_this_hitPrints : Nat → Int32} {c_this_canMany : Nat → Int32} {c_this_printedBy : Nat → Int32} {c_this_missing : Nat → Int32} {c_this_prints : Nat → Int32} {c_this_gutter : Nat → Int32} {c_this_seenLine : Nat → Int32} {c_this_seenMany : Nat → Int32} {post : Int32 → (Int32 × Int32 × Int32 × Int32 × Int32 × (Nat → Int32) × (Nat → Int32) × (Nat → Int32) × (Nat → Int32) × (Nat → Int32) × (Nat → Int32) × (Nat → Int32) × (Nat → Int32) × (Nat → Int32) × (Nat → Int32) × (Nat → Int32)) → Prop} (I : RefI d s n ek ea en c_this_told c_this_head f_this_events c_this_eventKind c_this_eventAt c_this_eventNozzle) (S : SeenOk sn sl sm f_this_seens c_this_seenLine c_this_seenMany) (h : ∀ u, post (nI (bts (nvP s d n ek ea en sn sl sm) n)) u) : wp_X4_neverNow f_this_events f_this_notEvents f_this_deadNow f_this_allMissed f_this_allWanted f_this_allPrinted f_this_seens c_this_told c_this_head c_this_eventKind c_this_eventAt c_this_eventNozzle c_this_dots c_this_now c_this_hitMany c_this_hitPass c_this_hitNozzle c_this_hitPrints c_this_canMany c_this_printedBy c_this_missing c_this_prints c_this_gutter c_this_seenLine c_this_seenMany post := by
  obtain ⟨i1, i2, i3, i4⟩ := I
  subst i3
  have hn := i4.1
  unfold wp_X4_neverNow
  refine r_asTold i1 i2 (fun dots now hd hnow => ?_)
  dsimp only
  have key : ∀ (Ke : Int32 → Int32 → Int32 → Int32 → Int32 → (Nat → Int32) → (Nat → Int32) → (Nat → Int32) → (Nat → Int32) → (Nat → Int32) → (Nat → Int32) → (Nat → Int32) → (Nat → Int32) → (Nat → Int32) → Prop), (∀ e1 e2 e3 e4 f1 f2 f3 f4 f5 f6 f7 f8 f9, Ke (nI (bts (nvP s d n ek ea en sn sl sm) n)) e1 e2 e3 e4 f1 f2 f3 f4 f5 f6 f7 f8 f9) → ∀ (m k : Nat) (e1 e2 e3 e4 : Int32) (f1 f2 f3 f4 f5 f6 f7 f8 f9 : Nat → Int32), k ≤ n → n - k < m → wq_X4_neverNow_8 (nI n) f_this_seens c_this_told c_this_head c_this_eventKind c_this_eventAt c_this_eventNozzle c_this_seenLine c_this_seenMany (-1) dots now post Ke m (nI (bts (nvP s d n ek ea en sn sl sm) k)) (nI k) e1 e2 e3 e4 f1 f2 f3 f4 f5 f6 f7 f8 f9 := by
    intro Ke hK m
    induction m with
    | zero => intro k e1 e2 e3 e4 f1 f2 f3 f4 f5 f6 f7 f8 f9 g1 g2; omega
    | succ m ih =>
      intro k e1 e2 e3 e4 f1 f2 f3 f4 f5 f6 f7 f8 f9 g1 g2
      unfold wq_X4_neverNow_8
      rw [nI_leI (by omega) (by omega)]
      refine ⟨fun q => ?_, fun q => ?_⟩
      · have e : k = n := by omega
        subst e; exact hK _ _ _ _ _ _ _ _ _ _ _ _ _
      · have p2 : 2 ^ k < 2 ^ 8 := Nat.pow_lt_pow_right (by decide) (by omega)
        rw [forall_eq, q_1sh (by omega)]
        refine r_isSeen hnow (r_alN i4 (by omega)) hd S (fun aM aW aP hm hP hN hR cM pB mi pt gt _ => ?_)
        rw [b01_0]
        have st := ih (k + 1) (nI (2 ^ k)) aM aW aP hm hP hN hR cM pB mi pt gt (by omega) (by omega)
        unfold bts at st
        simp only [forall_eq]
        rw [fa_or, nI_1, show (0 : Int32) = nI 0 from rfl, fa_or, Nat.or_zero]
        cases hc : fits s d sn sl sm (alN n ek ea en (2 ^ k)) (s 5) with
        | false =>
          rw [show nvP s d n ek ea en sn sl sm k = false from hc, if_neg (by decide)] at st
          exact yes1 rfl st
        | true =>
          rw [show nvP s d n ek ea en sn sl sm k = true from hc, if_pos rfl] at st
          exact no1 (by decide) st
  exact ⟨n + 1, key _ (fun e1 e2 e3 e4 f1 f2 f3 f4 f5 f6 f7 f8 f9 => h _) (n + 1) 0 _ _ _ _ _ _ _ _ _ _ _ _ _ (by omega) (by omega)⟩
theorem r_never {d s : Nat → Nat} {n : Nat} {ek ea en : Nat → Nat} {sn : Nat} {sl sm : Nat → Nat} {f_this_events : Int32} {f_this_notEvents : Int32} {f_this_deadNow : Int32} {f_this_allMissed : Int32} {f_this_allWanted : Int32} {f_this_allPrinted : Int32} {f_this_seens : Int32} {c_this_told : Nat → Int32} {c_this_head : Nat → Int32} {c_this_eventKind : Nat → Int32} {c_this_eventAt : Nat → Int32} {c_this_eventNozzle : Nat → Int32} {c_this_dots : Nat → Int32} {c_this_now : Nat → Int32} {c_this_hitMany : Nat → Int32} {c_this_hitPass : Nat → Int32} {c_this_hitNozzle : Nat → Int32} {c_this_hitPrints : Nat → Int32} {c_this_canMany : Nat → Int32} {c_this_printedBy : Nat → Int32} {c_this_missing : Nat → Int32} {c_this_prints : Nat → Int32} {c_this_gutter : Nat → Int32} {c_this_seenLine : Nat → Int32} {c_this_seenMany : Nat → Int32} {post : Int32 → (Int32 × Int32 × Int32 × Int32 × Int32 × (Nat → Int32) × (Nat → Int32) × (Nat → Int32) × (Nat → Int32) × (Nat → Int32) × (Nat → Int32) × (Nat → Int32) × (Nat → Int32) × (Nat → Int32) × (Nat → Int32) × (Nat → Int32)) → Prop} (I : RefI d s n ek ea en c_this_told c_this_head f_this_events c_this_eventKind c_this_eventAt c_this_eventNozzle) (S : SeenOk sn sl sm f_this_seens c_this_seenLine c_this_seenMany) (h : ∀ u, post (nI (bts (nvP s d n ek ea en sn sl sm) n)) u) : wp_X4_never f_this_events f_this_notEvents f_this_deadNow f_this_allMissed f_this_allWanted f_this_allPrinted f_this_seens c_this_told c_this_head c_this_eventKind c_this_eventAt c_this_eventNozzle c_this_dots c_this_now c_this_hitMany c_this_hitPass c_this_hitNozzle c_this_hitPrints c_this_canMany c_this_printedBy c_this_missing c_this_prints c_this_gutter c_this_seenLine c_this_seenMany post := r_neverNow I S (fun u => h _)
/-- one nozzle dead alone -/
theorem q_4095 : ∀ p, p < 12 → Nat.testBit 4095 p = true := by decide
theorem s_letDie {j : Nat} {c_this_living : Nat → Int32} {post : ((Nat → Int32)) → Prop} (hj : j < 8) (h : ∀ l, LivOk (alD j) l → post l) : wp_X3_letDieAlone (nI j) c_this_living post := by
  unfold wp_X3_letDieAlone
  refine s_fill (by decide) (fun u hu _ => ⟨vp_in_nI hj (by omega), h _ (fun i hi => ?_)⟩)
  rw [nI_clamp (by omega)]
  by_cases e : i = j
  · subst e
    refine ⟨0, by decide, pk_us, fun p hp => ?_⟩
    rw [Nat.zero_testBit]
    exact (decide_eq_false (fun q => q rfl)).symm
  · refine ⟨4095, by decide, by rw [pk_un e, hu i hi]; rfl, fun p hp => ?_⟩
    rw [q_4095 p hp]
    exact (decide_eq_true e).symm
def deP (s d : Nat → Nat) (sn : Nat) (sl sm : Nat → Nat) (j : Nat) : Bool := fits s d sn sl sm (alD j) (s 5)
theorem s_fittingDeads {s d : Nat → Nat} {sn : Nat} {sl sm : Nat → Nat} {f_this_seenSize : Int32} {c_this_told_picture : Nat → Int32} {c_this_told_head : Nat → Int32} {c_this_told_hitCount : Nat → Int32} {c_this_told_hitPlace : Nat → Int32} {c_this_living : Nat → Int32} {c_this_seenLine : Nat → Int32} {c_this_seenMany : Nat → Int32} {post : Int32 → ((Nat → Int32)) → Prop} (hh : Hd s c_this_told_head) (hp : PicOk d c_this_told_picture) (hH : ClsH s c_this_told_hitCount c_this_told_hitPlace) (S : SeenOk sn sl sm f_this_seenSize c_this_seenLine c_this_seenMany) (h : ∀ l, post (nI (bts (deP s d sn sl sm) (s 0))) l) : wp_X3_fittingDeads f_this_seenSize c_this_told_picture c_this_told_head c_this_told_hitCount c_this_told_hitPlace c_this_living c_this_seenLine c_this_seenMany post := by
  have H := hh.1
  have a0 := H.1
  unfold wp_X3_fittingDeads
  have key : ∀ (m k : Nat) (l : Nat → Int32), k ≤ s 0 → s 0 - k < m → wq_X3_fittingDeads_4 f_this_seenSize c_this_told_picture c_this_told_head c_this_told_hitCount c_this_told_hitPlace c_this_seenLine c_this_seenMany post (fun e15 d16 => post e15 d16) m (nI (bts (deP s d sn sl sm) k)) (nI k) l := by
    intro m
    induction m with
    | zero => intro k l g1 g2; omega
    | succ m ih =>
      intro k l g1 g2
      unfold wq_X3_fittingDeads_4
      rw [hh.at 0 (by omega) (by omega), nI_leI (by omega) (by omega)]
      refine ⟨fun q => ?_, fun q => ?_⟩
      · have e : k = s 0 := by omega
        subst e; exact h l
      · refine s_letDie (by omega) (fun l hL => ?_)
        rw [forall_eq, hh.at 5 (by omega) (by omega)]
        refine s_fitsSeen hh hp hH S hL H.2.2.2.2.2.1.2 ?_
        rw [b01_0]
        have st := ih (k + 1) l (by omega) (by omega)
        unfold bts at st
        simp only [forall_eq]
        rw [q_1sh (by omega), fa_or, nI_1]
        cases hc : fits s d sn sl sm (alD k) (s 5) with
        | false =>
          rw [show deP s d sn sl sm k = false from hc, if_neg (by decide)] at st
          exact yes1 rfl st
        | true =>
          rw [show deP s d sn sl sm k = true from hc, if_pos rfl] at st
          exact no1 (by decide) st
  exact ⟨s 0 + 1, key (s 0 + 1) 0 _ (by omega) (by omega)⟩
/-- the caps that fit -/
def caP (s d : Nat → Nat) (al : Nat → Nat → Bool) (sn : Nat) (sl sm : Nat → Nat) (c : Nat) : Bool := decide (c ≠ 0) && fits s d sn sl sm al c
theorem s_fittingCaps {s d : Nat → Nat} {n : Nat} {ek ea en : Nat → Nat} {sn : Nat} {sl sm : Nat → Nat} {f_this_seenSize : Int32} {c_this_told_picture : Nat → Int32} {c_this_told_head : Nat → Int32} {c_this_told_hitCount : Nat → Int32} {c_this_told_hitPlace : Nat → Int32} {f_this_events_size : Int32} {c_this_events_kinds : Nat → Int32} {c_this_events_passes : Nat → Int32} {c_this_events_nozzles : Nat → Int32} {c_this_living : Nat → Int32} {c_this_seenLine : Nat → Int32} {c_this_seenMany : Nat → Int32} {post : Int32 → ((Nat → Int32)) → Prop} (hh : Hd s c_this_told_head) (hp : PicOk d c_this_told_picture) (hH : ClsH s c_this_told_hitCount c_this_told_hitPlace) (hE : EvOk n ek ea en c_this_events_kinds c_this_events_passes c_this_events_nozzles) (hs' : f_this_events_size = nI n) (S : SeenOk sn sl sm f_this_seenSize c_this_seenLine c_this_seenMany) (h : ∀ l, post (nI (bts (caP s d (al0 n ek ea en) sn sl sm) 9)) l) : wp_X3_fittingCaps f_this_seenSize c_this_told_picture c_this_told_head c_this_told_hitCount c_this_told_hitPlace f_this_events_size c_this_events_kinds c_this_events_passes c_this_events_nozzles c_this_living c_this_seenLine c_this_seenMany post := by
  have hn := hE.1
  have H := hh.1
  unfold wp_X3_fittingCaps
  rw [hs']
  refine s_all hn (s_livingBy hE (by have := pw8 hn; omega) (fun l hL => ?_))
  rw [alv_cong (c2 := fun _ => true) (fun e he => by rw [Nat.testBit_two_pow_sub_one, decide_eq_true he])] at hL
  have hL : LivOk (al0 n ek ea en) l := hL
  rw [forall_eq]
  have key : ∀ (m k : Nat), 1 ≤ k → k ≤ 9 → 9 - k < m → wq_X3_fittingCaps_26 f_this_seenSize c_this_told_picture c_this_told_head c_this_told_hitCount c_this_told_hitPlace (nI n) c_this_events_kinds c_this_events_passes c_this_events_nozzles c_this_seenLine c_this_seenMany l post (fun e17 => post e17 l) m (nI (bts (caP s d (al0 n ek ea en) sn sl sm) k)) (nI k) := by
    intro m
    induction m with
    | zero => intro k g0 g1 g2; omega
    | succ m ih =>
      intro k g0 g1 g2
      unfold wq_X3_fittingCaps_26
      rw [show jtH 5 = nI 8 from rfl, nI_ltI (by omega) (by omega)]
      refine ⟨fun q => ?_, fun q => ?_⟩
      · have e : k = 9 := by omega
        subst e; exact h l
      · refine s_fitsSeen hh hp hH S hL (by omega) ?_
        rw [b01_0]
        have st := ih (k + 1) (by omega) (by omega) (by omega)
        unfold bts at st
        simp only [forall_eq]
        rw [q_1sh (by omega), fa_or, nI_1]
        have ek0 : decide (k ≠ 0) = true := decide_eq_true (by omega)
        cases hc : fits s d sn sl sm (al0 n ek ea en) k with
        | false =>
          rw [show caP s d (al0 n ek ea en) sn sl sm k = false by unfold caP; rw [hc, Bool.and_false], if_neg (by decide)] at st
          exact yes1 rfl st
        | true =>
          rw [show caP s d (al0 n ek ea en) sn sl sm k = true by unfold caP; rw [hc, ek0]; rfl, if_pos rfl] at st
          exact no1 (by decide) st
  exact ⟨9, key 9 1 (by omega) (by omega) (by omega)⟩
def aWas (s d : Nat → Nat) (al : Nat → Nat → Bool) (sn : Nat) (sl sm : Nat → Nat) (w : Nat) : Int32 := if w = 0 then nI (bts (deP s d sn sl sm) (s 0)) else nI (bts (caP s d al sn sl sm) 9)
theorem s_was {s d : Nat → Nat} {n : Nat} {ek ea en : Nat → Nat} {sn : Nat} {sl sm : Nat → Nat} {x1 : Int32} {f_this_seenSize : Int32} {c_this_told_picture : Nat → Int32} {c_this_told_head : Nat → Int32} {c_this_told_hitCount : Nat → Int32} {c_this_told_hitPlace : Nat → Int32} {f_this_events_size : Int32} {c_this_events_kinds : Nat → Int32} {c_this_events_passes : Nat → Int32} {c_this_events_nozzles : Nat → Int32} {c_this_living : Nat → Int32} {c_this_seenLine : Nat → Int32} {c_this_seenMany : Nat → Int32} {post : Int32 → ((Nat → Int32)) → Prop} (hh : Hd s c_this_told_head) (hp : PicOk d c_this_told_picture) (hH : ClsH s c_this_told_hitCount c_this_told_hitPlace) (hE : EvOk n ek ea en c_this_events_kinds c_this_events_passes c_this_events_nozzles) (hs' : f_this_events_size = nI n) (S : SeenOk sn sl sm f_this_seenSize c_this_seenLine c_this_seenMany) (h : ∀ l, post (ans_in ((0 : Int32) ≤ x1 ∧ x1 ≤ 1) (aWas s d (al0 n ek ea en) sn sl sm x1.toNatClampNeg)) l) : wp_X3_was x1 f_this_seenSize c_this_told_picture c_this_told_head c_this_told_hitCount c_this_told_hitPlace f_this_events_size c_this_events_kinds c_this_events_passes c_this_events_nozzles c_this_living c_this_seenLine c_this_seenMany post := by
  unfold wp_X3_was
  unfold ans_in at h
  by_cases c : (0 : Int32) ≤ x1 ∧ x1 ≤ 1
  · refine s_withinT c (no2 one0 ?_)
    rw [if_pos c] at h
    obtain ⟨w, hw, e⟩ := (q_rng (n := 1) (by decide)).mp c
    subst e
    rw [nI_clamp (by omega)] at h
    unfold aWas at h
    by_cases w0 : w = 0
    · simp only [if_pos w0] at h
      exact yes2 (by rw [w0]; rfl) (s_fittingDeads hh hp hH S h)
    · simp only [if_neg w0] at h
      exact no2 (fun q => w0 ((nI_eq (b := 0) (by omega) (by omega)).mp q)) (s_fittingCaps hh hp hH hE hs' S h)
  · rw [if_neg c] at h
    exact s_withinF c (yes2 rfl (h _))
/-- another cap -/
theorem hs_cap (s : Nat → Nat) (v y : Nat) : hs (va_up s 5 v) y = hs s y := by
  unfold hs
  have e : ∀ k, k ≠ 5 → va_up s 5 v k = s k := fun k hk => va_up_ne _ _ hk
  have e2 : onl (va_up s 5 v) y = onl s y := by
    funext q
    unfold onl
    rw [e 1 (by decide), e 2 (by decide), e 4 (by decide)]
  rw [e2, e 0 (by decide), e 3 (by decide)]
theorem fw_cap (s : Nat → Nat) (v : Nat) (al : Nat → Nat → Bool) (c d y : Nat) : fw (va_up s 5 v) al c d y = fw s al c d y := by
  have e7 : va_up s 5 v 7 = s 7 := va_up_ne _ _ (by decide)
  have eR : nR (va_up s 5 v) al y = nR s al y := by
    unfold nR
    rw [hs_cap]
    refine fb_ct_cong (fun k _ => ?_)
    unfold RA; rw [hs_cap]
  have eL : nL (va_up s 5 v) al y = nL s al y := by
    unfold nL
    rw [hs_cap]
    refine fb_ct_cong (fun k _ => ?_)
    unfold LA; rw [hs_cap]
  have eF : cF (va_up s 5 v) d = cF s d := fb_ct_cong (fun k _ => by unfold kF; rw [e7])
  have eL2 : cL (va_up s 5 v) d = cL s d := fb_ct_cong (fun k _ => by unfold kL; rw [e7])
  have eM : cM (va_up s 5 v) d = cM s d := fb_ct_cong (fun k _ => by unfold kM; rw [e7])
  unfold fw
  rw [eR, eL, eF, eL2, eM]
theorem fits_cap (s d : Nat → Nat) (sn : Nat) (sl sm : Nat → Nat) (al : Nat → Nat → Bool) (c v : Nat) : fits (va_up s 5 v) d sn sl sm al c = fits s d sn sl sm al c := by
  unfold fits
  simp only [fw_cap]
theorem cap_hd {s : Nat → Nat} (H : Hok s) {c : Nat} (h1 : 1 ≤ c) (h8 : c ≤ 8) {head : Nat → Int32} (hh : ∀ k, k < 9 → k ≠ 5 → head k = hv s k) : Hd (va_up s 5 c) (upd head 5 (nI c)) := by
  have e : ∀ k, k ≠ 5 → va_up s 5 c k = s k := fun k hk => va_up_ne _ _ hk
  refine ⟨?_, fun k hk => ?_⟩
  · unfold Hok
    rw [e 0 (by decide), e 1 (by decide), e 2 (by decide), e 3 (by decide), e 4 (by decide), e 6 (by decide), e 7 (by decide), e 8 (by decide), va_up_self]
    obtain ⟨a0, a1, a2, a3, a4, a5, a6, a7, a8⟩ := H
    exact ⟨a0, a1, a2, a3, a4, ⟨h1, h8⟩, a6, a7, a8⟩
  · by_cases c5 : k = 5
    · subst c5; rw [pk_us]; unfold hv; rw [if_neg (by decide), va_up_self]
    · rw [pk_un c5, hh k hk c5]; unfold hv; rw [e k c5, e 4 (by decide)]
theorem r_capsBy {d s : Nat → Nat} {n : Nat} {ek ea en : Nat → Nat} {sn : Nat} {sl sm : Nat → Nat} {f_this_events : Int32} {f_this_notEvents : Int32} {f_this_deadNow : Int32} {f_this_allMissed : Int32} {f_this_allWanted : Int32} {f_this_allPrinted : Int32} {f_this_seens : Int32} {c_this_told : Nat → Int32} {c_this_head : Nat → Int32} {c_this_eventKind : Nat → Int32} {c_this_eventAt : Nat → Int32} {c_this_eventNozzle : Nat → Int32} {c_this_dots : Nat → Int32} {c_this_now : Nat → Int32} {c_this_hitMany : Nat → Int32} {c_this_hitPass : Nat → Int32} {c_this_hitNozzle : Nat → Int32} {c_this_hitPrints : Nat → Int32} {c_this_canMany : Nat → Int32} {c_this_printedBy : Nat → Int32} {c_this_missing : Nat → Int32} {c_this_prints : Nat → Int32} {c_this_gutter : Nat → Int32} {c_this_seenLine : Nat → Int32} {c_this_seenMany : Nat → Int32} {post : Int32 → (Int32 × Int32 × Int32 × Int32 × Int32 × (Nat → Int32) × (Nat → Int32) × (Nat → Int32) × (Nat → Int32) × (Nat → Int32) × (Nat → Int32) × (Nat → Int32) × (Nat → Int32) × (Nat → Int32) × (Nat → Int32) × (Nat → Int32)) → Prop} (I : RefI d s n ek ea en c_this_told c_this_head f_this_events c_this_eventKind c_this_eventAt c_this_eventNozzle) (S : SeenOk sn sl sm f_this_seens c_this_seenLine c_this_seenMany) (h : ∀ u, post (nI (bts (caP s d (al0 n ek ea en) sn sl sm) 9)) u) : wp_X4_capsBy f_this_events f_this_notEvents f_this_deadNow f_this_allMissed f_this_allWanted f_this_allPrinted f_this_seens c_this_told c_this_head c_this_eventKind c_this_eventAt c_this_eventNozzle c_this_dots c_this_now c_this_hitMany c_this_hitPass c_this_hitNozzle c_this_hitPrints c_this_canMany c_this_printedBy c_this_missing c_this_prints c_this_gutter c_this_seenLine c_this_seenMany post := by
  obtain ⟨i1, i2, i3, i4⟩ := I
  subst i3
  have H := i2.1
  unfold wp_X4_capsBy
  refine r_asTold i1 i2 (fun dots now hd hnow => ?_)
  have hA := r_alN i4 (ne := 0) (by decide)
  rw [alN_0] at hA
  dsimp only
  have key : ∀ (Ke : Int32 → Int32 → Int32 → Int32 → (Nat → Int32) → (Nat → Int32) → (Nat → Int32) → (Nat → Int32) → (Nat → Int32) → (Nat → Int32) → (Nat → Int32) → (Nat → Int32) → (Nat → Int32) → (Nat → Int32) → Prop), (∀ e1 e2 e3 f1 f2 f3 f4 f5 f6 f7 f8 f9 f10, Ke (nI (bts (caP s d (al0 n ek ea en) sn sl sm) 9)) e1 e2 e3 f1 f2 f3 f4 f5 f6 f7 f8 f9 f10) → ∀ (m k : Nat) (e1 e2 e3 : Int32) (f1 f2 f3 f4 f5 f6 f7 f8 f9 f10 : Nat → Int32), 1 ≤ k → k ≤ 9 → 9 - k < m → (∀ i, i < 9 → i ≠ 5 → f1 i = hv s i) → wq_X4_capsBy_8 (nI n) f_this_seens c_this_told c_this_head c_this_eventKind c_this_eventAt c_this_eventNozzle c_this_seenLine c_this_seenMany 0 (-1) dots post Ke m (nI (bts (caP s d (al0 n ek ea en) sn sl sm) k)) (nI k) e1 e2 e3 f1 f2 f3 f4 f5 f6 f7 f8 f9 f10 := by
    intro Ke hK m
    induction m with
    | zero => intro k e1 e2 e3 f1 f2 f3 f4 f5 f6 f7 f8 f9 f10 g0 g1 g2; omega
    | succ m ih =>
      intro k e1 e2 e3 f1 f2 f3 f4 f5 f6 f7 f8 f9 f10 g0 g1 g2 hf
      unfold wq_X4_capsBy_8
      rw [show (9 : Int32) = nI 9 from rfl, nI_leI (by omega) (by omega)]
      refine ⟨fun q => ?_, fun q => ?_⟩
      · have e : k = 9 := by omega
        subst e; exact hK _ _ _ _ _ _ _ _ _ _ _ _ _
      · refine r_isSeen (cap_hd H g0 (by omega) hf) hA hd S (fun aM aW aP hm hP hN hR cM pB mi pt gt _ => ?_)
        rw [va_up_self, fits_cap, b01_0]
        have st := ih (k + 1) aM aW aP (upd f1 5 (nI k)) hm hP hN hR cM pB mi pt gt (by omega) (by omega) (by omega) (fun i h9 h5 => by rw [pk_un h5]; exact hf i h9 h5)
        unfold bts at st
        simp only [forall_eq]
        rw [q_1sh (by omega), fa_or, nI_1, show (0 : Int32) = nI 0 from rfl, fa_or, Nat.or_zero]
        have ek0 : decide (k ≠ 0) = true := decide_eq_true (by omega)
        cases hc : fits s d sn sl sm (al0 n ek ea en) k with
        | false =>
          rw [show caP s d (al0 n ek ea en) sn sl sm k = false by unfold caP; rw [hc, Bool.and_false], if_neg (by decide)] at st
          exact yes1 rfl st
        | true =>
          rw [show caP s d (al0 n ek ea en) sn sl sm k = true by unfold caP; rw [hc, ek0]; rfl, if_pos rfl] at st
          exact no1 (by decide) st
  exact ⟨9, key _ (fun e1 e2 e3 f1 f2 f3 f4 f5 f6 f7 f8 f9 f10 => h _) 9 1 _ _ _ _ _ _ _ _ _ _ _ _ _ (by omega) (by omega) (by omega) (fun i h9 _ => hnow.2 i h9)⟩
