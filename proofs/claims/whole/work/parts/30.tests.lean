/-! tests: pictures by a seed -/
def lot (seed : Int32) : Nat → Int32
  | 0 => seed
  | k + 1 => 1103515245 * lot seed k + 12345
def lotD (seed : Int32) (nn y : Nat) : Nat := if y < nn then (lot seed (y + 1)).toUInt32.toNat / 65536 % 256 else 0
theorem q_lot (z : Int32) : (z.toUInt32 >>> ((16 : Int32).toUInt32 &&& Int32.toUInt32 31)).toInt32 = nI (z.toUInt32.toNat / 65536) := by
  have e : ((16 : Int32).toUInt32 &&& Int32.toUInt32 31) = 16 := by decide
  rw [e]
  apply Int32.toBitVec.inj
  show (z.toUInt32 >>> (16 : UInt32)).toBitVec = BitVec.ofNat 32 (z.toUInt32.toNat / 65536)
  apply BitVec.eq_of_toNat_eq
  have h1 : (z.toUInt32 >>> (16 : UInt32)).toBitVec.toNat = (z.toUInt32 >>> (16 : UInt32)).toNat := rfl
  rw [h1, UInt32.toNat_shiftRight, BitVec.toNat_ofNat]
  have h2 : z.toUInt32.toNat < 2 ^ 32 := z.toUInt32.toBitVec.isLt
  rw [show (16 : UInt32).toNat % 32 = 16 from rfl, Nat.shiftRight_eq_div_pow, Nat.mod_eq_of_lt]
  exact Nat.lt_of_le_of_lt (Nat.div_le_self _ _) h2
theorem q_lot2 (z : Int32) : nI (z.toUInt32.toNat / 65536) - nI (z.toUInt32.toNat / 65536) / 256 * 256 = nI (z.toUInt32.toNat / 65536 % 256) := by
  have h2 : z.toUInt32.toNat < 2 ^ 32 := z.toUInt32.toBitVec.isLt
  have h3 : z.toUInt32.toNat / 65536 < 2 ^ 31 := by omega
  exact pk_rem h3 (by decide) (by decide)
theorem lotD_lt (seed : Int32) (nn y : Nat) : lotD seed nn y < 256 := by
  unfold lotD
  by_cases c : y < nn
  · rw [if_pos c]; exact Nat.mod_lt _ (by decide)
  · rw [if_neg c]; decide
noncomputable def aTest (s : Nat → Nat) (al : Nat → Nat → Bool) (seed : Int32) (nn w : Nat) : Int32 := if w = 0 then nI (sMiss s al (lotD seed nn)) else nI (sGut s al (lotD seed nn))
noncomputable def aTests (s : Nat → Nat) (al : Nat → Nat → Bool) (x1 x2 x3 : Int32) : Int32 := ans_in (((0 : Int32) ≤ x2 ∧ x2 ≤ 16) ∧ ((0 : Int32) ≤ x3 ∧ x3 ≤ 1)) (aTest s al x1 x2.toNatClampNeg x3.toNatClampNeg)
theorem s_tests {s d : Nat → Nat} {al : Nat → Nat → Bool} {x1 : Int32} {x2 : Int32} {x3 : Int32} {c_this_told_picture : Nat → Int32} {c_this_told_head : Nat → Int32} {c_this_told_living : Nat → Int32} {f_this_trial_strayed : Int32} {c_this_trial_picture : Nat → Int32} {c_this_trial_head : Nat → Int32} {c_this_trial_living : Nat → Int32} {c_this_trial_hitCount : Nat → Int32} {c_this_trial_hitPlace : Nat → Int32} {c_this_trial_printingHit : Nat → Int32} {c_this_trial_missedDots : Nat → Int32} {c_this_trial_firstPass : Nat → Int32} {c_this_trial_lastPass : Nat → Int32} {c_this_trial_dotsPrinted : Nat → Int32} {c_this_trial_gutter : Nat → Int32} {c_this_trial_canColumns : Nat → Int32} {c_this_trial_canCount : Nat → Int32} {post : Int32 → (Int32 × (Nat → Int32) × (Nat → Int32) × (Nat → Int32) × (Nat → Int32) × (Nat → Int32) × (Nat → Int32) × (Nat → Int32) × (Nat → Int32) × (Nat → Int32) × (Nat → Int32) × (Nat → Int32) × (Nat → Int32) × (Nat → Int32)) → Prop} (hh : Hd s c_this_told_head) (hp : PicOk d c_this_told_picture) (hL : LivOk al c_this_told_living) (h : ∀ u, post (aTests s al x1 x2 x3) u) : wp_X3_tests x1 x2 x3 c_this_told_picture c_this_told_head c_this_told_living f_this_trial_strayed c_this_trial_picture c_this_trial_head c_this_trial_living c_this_trial_hitCount c_this_trial_hitPlace c_this_trial_printingHit c_this_trial_missedDots c_this_trial_firstPass c_this_trial_lastPass c_this_trial_dotsPrinted c_this_trial_gutter c_this_trial_canColumns c_this_trial_canCount post := by
  have H := hh.1
  unfold wp_X3_tests
  unfold aTests ans_in at h
  by_cases c1 : (0 : Int32) ≤ x2 ∧ x2 ≤ 16
  · refine s_withinT c1 (no1 one0 ?_)
    by_cases c2 : (0 : Int32) ≤ x3 ∧ x3 ≤ 1
    · refine s_withinT c2 (no2 one0 ?_)
      rw [if_pos ⟨c1, c2⟩] at h
      obtain ⟨nn, hn, e⟩ := (q_rng (n := 16) (by decide)).mp c1
      subst e
      obtain ⟨w, hw, e⟩ := (q_rng (n := 1) (by decide)).mp c2
      subst e
      rw [nI_clamp (by omega), nI_clamp (by omega)] at h
      refine s_takeInputs hh hp hL (fun p hd' l g1 g2 g3 => ?_)
      have key : ∀ (Ke : (Nat → Int32) → Prop), (∀ pic, PicOk (lotD x1 nn) pic → Ke pic) → ∀ (m k : Nat) (pic : Nat → Int32), k ≤ 16 → 16 - k < m → (∀ i, i < k → pic i = nI (lotD x1 nn i)) → wq_X3_tests_39 c_this_told_picture c_this_told_head c_this_told_living (nI nn) (nI w) f_this_trial_strayed hd' l c_this_trial_hitCount c_this_trial_hitPlace c_this_trial_printingHit c_this_trial_missedDots c_this_trial_firstPass c_this_trial_lastPass c_this_trial_dotsPrinted c_this_trial_gutter c_this_trial_canColumns c_this_trial_canCount post Ke m (lot x1 k) (nI k) pic := by
        intro Ke hK m
        induction m with
        | zero => intro k pic q1 q2; omega
        | succ m ih =>
          intro k pic q1 q2 hI
          unfold wq_X3_tests_39
          rw [show (16 : Int32) ≤ nI k ↔ 16 ≤ k from nI_leI (a := 16) (by omega) (by omega)]
          refine ⟨fun q => hK _ (fun i hi => ⟨hI i (by omega), lotD_lt _ _ _⟩), fun q => ?_⟩
          simp only [forall_eq]
          rw [q_lot, q_lot2, nI_leI (by omega) (by omega), nI_1, nI_clamp (by omega)]
          refine ⟨fun c => ⟨vp_in_nI (by omega) (by omega), ih (k + 1) _ (by omega) (by omega) (fun i hi => ?_)⟩, fun c => ⟨vp_in_nI (by omega) (by omega), ih (k + 1) _ (by omega) (by omega) (fun i hi => ?_)⟩⟩
          · by_cases e : i = k
            · subst e; rw [pk_us]; unfold lotD; rw [if_neg (by omega)]; rfl
            · rw [pk_un e]; exact hI i (by omega)
          · by_cases e : i = k
            · subst e; rw [pk_us]; unfold lotD; rw [if_pos (by omega)]; rfl
            · rw [pk_un e]; exact hI i (by omega)
      refine ⟨17, key _ (fun pic hpic => ?_) 17 0 _ (by omega) (by omega) (fun i hi => by omega)⟩
      refine s_print g2 g3 hpic (fun str hc hp' ph md fp lp dp gt cc cn hP => ?_)
      dsimp only
      unfold aTest at h
      by_cases w0 : w = 0
      · simp only [if_pos w0] at h
        exact yes2 (by rw [w0]; rfl) (s_allMissed hP.2.1.2.2.1 (h _))
      · simp only [if_neg w0] at h
        exact no2 (fun q => w0 ((nI_eq (b := 0) (by omega) (by omega)).mp q)) (s_gutterDrops H hP.2.2 (h _))
    · rw [if_neg (fun q => c2 q.2)] at h
      exact s_withinF c2 (yes2 rfl (h _))
  · rw [if_neg (fun q => c1 q.1)] at h
    exact s_withinF c1 (yes1 rfl (h _))
theorem r_testsOf {d s : Nat → Nat} {n : Nat} {ek ea en : Nat → Nat} {nn w : Nat} {x1 : Int32} {f_this_events : Int32} {f_this_notEvents : Int32} {f_this_deadNow : Int32} {f_this_allMissed : Int32} {f_this_allWanted : Int32} {f_this_allPrinted : Int32} {c_this_told : Nat → Int32} {c_this_head : Nat → Int32} {c_this_eventKind : Nat → Int32} {c_this_eventAt : Nat → Int32} {c_this_eventNozzle : Nat → Int32} {c_this_dots : Nat → Int32} {c_this_now : Nat → Int32} {c_this_hitMany : Nat → Int32} {c_this_hitPass : Nat → Int32} {c_this_hitNozzle : Nat → Int32} {c_this_hitPrints : Nat → Int32} {c_this_canMany : Nat → Int32} {c_this_printedBy : Nat → Int32} {c_this_missing : Nat → Int32} {c_this_prints : Nat → Int32} {c_this_gutter : Nat → Int32} {post : Int32 → (Int32 × Int32 × Int32 × Int32 × Int32 × (Nat → Int32) × (Nat → Int32) × (Nat → Int32) × (Nat → Int32) × (Nat → Int32) × (Nat → Int32) × (Nat → Int32) × (Nat → Int32) × (Nat → Int32) × (Nat → Int32) × (Nat → Int32)) → Prop} (I : RefI d s n ek ea en c_this_told c_this_head f_this_events c_this_eventKind c_this_eventAt c_this_eventNozzle) (hn : nn ≤ 16) (hw : w ≤ 1) (h : ∀ u, post (aTest s (al0 n ek ea en) x1 nn w) u) : wp_X4_testsOf x1 (nI nn) (nI w) f_this_events f_this_notEvents f_this_deadNow f_this_allMissed f_this_allWanted f_this_allPrinted c_this_told c_this_head c_this_eventKind c_this_eventAt c_this_eventNozzle c_this_dots c_this_now c_this_hitMany c_this_hitPass c_this_hitNozzle c_this_hitPrints c_this_canMany c_this_printedBy c_this_missing c_this_prints c_this_gutter post := by
  obtain ⟨i1, i2, i3, i4⟩ := I
  have H := i2.1
  unfold wp_X4_testsOf
  refine r_asTold i1 i2 (fun dots now hd hnow => ?_)
  have hA := r_alN i4 (ne := 0) (by decide)
  rw [alN_0, ← i3] at hA
  dsimp only
  have key : ∀ (Ke : (Nat → Int32) → Prop), (∀ pic, PicOk (lotD x1 nn) pic → Ke pic) → ∀ (m k : Nat) (v : Int32) (pic : Nat → Int32), k ≤ 16 → 16 - k < m → (k ≤ nn → v = lot x1 k) → (∀ i, i < k → pic i = nI (lotD x1 nn i)) → wq_X4_testsOf_10 f_this_events c_this_told c_this_head c_this_eventKind c_this_eventAt c_this_eventNozzle (nI nn) (nI w) 0 (-1) f_this_allMissed f_this_allWanted f_this_allPrinted now c_this_hitMany c_this_hitPass c_this_hitNozzle c_this_hitPrints c_this_canMany c_this_printedBy c_this_missing c_this_prints c_this_gutter post Ke m v (nI k) pic := by
    intro Ke hK m
    induction m with
    | zero => intro k v pic q1 q2; omega
    | succ m ih =>
      intro k v pic q1 q2 hv hI
      unfold wq_X4_testsOf_10
      rw [show (16 : Int32) ≤ nI k ↔ 16 ≤ k from nI_leI (a := 16) (by omega) (by omega)]
      refine ⟨fun q => hK _ (fun i hi => ⟨hI i (by omega), lotD_lt _ _ _⟩), fun q => ?_⟩
      simp only [forall_eq]
      unfold wq_X4_testsOf_38
      simp only [forall_eq]
      rw [q_lot, q_lot2, q_lot, q_lot2, nI_leI (by omega) (by omega), nI_1, nI_clamp (by omega)]
      refine ⟨fun c => yes1 c ⟨vp_in_nI (by omega) (by omega), ih (k + 1) _ _ (by omega) (by omega) (fun q => by omega) (fun i hi => ?_)⟩, fun c => no1 c ⟨vp_in_nI (by omega) (by omega), ih (k + 1) _ _ (by omega) (by omega) (fun q => by rw [hv (by omega)]; rfl) (fun i hi => ?_)⟩⟩
      · by_cases e : i = k
        · subst e; rw [pk_us]; unfold lotD; rw [if_neg (by omega)]; rfl
        · rw [pk_un e]; exact hI i (by omega)
      · by_cases e : i = k
        · subst e; rw [pk_us]; unfold lotD; rw [if_pos (by omega), hv (by omega)]; rfl
        · rw [pk_un e]; exact hI i (by omega)
  refine ⟨17, key _ (fun pic hpic => ?_) 17 0 _ _ (by omega) (by omega) (fun _ => rfl) (fun i hi => by omega)⟩
  refine r_runs hnow hA hpic (fun aM aW aP hm hP hN hR cM pB mi pt gt hRun => ?_)
  dsimp only
  unfold aTest at h
  by_cases w0 : w = 0
  · simp only [if_pos w0] at h
    refine yes2 (by rw [w0]; rfl) ?_
    rw [forall_eq, hRun.2.1.1, sm16_stk]
    exact h _
  · simp only [if_neg w0] at h
    exact no2 (fun q => w0 ((nI_eq (b := 0) (by omega) (by omega)).mp q)) (r_guttersNow hRun.2.2 (h _))
theorem r_tests {d s : Nat → Nat} {n : Nat} {ek ea en : Nat → Nat} {x1 : Int32} {x2 : Int32} {x3 : Int32} {f_this_events : Int32} {f_this_notEvents : Int32} {f_this_deadNow : Int32} {f_this_allMissed : Int32} {f_this_allWanted : Int32} {f_this_allPrinted : Int32} {c_this_told : Nat → Int32} {c_this_head : Nat → Int32} {c_this_eventKind : Nat → Int32} {c_this_eventAt : Nat → Int32} {c_this_eventNozzle : Nat → Int32} {c_this_dots : Nat → Int32} {c_this_now : Nat → Int32} {c_this_hitMany : Nat → Int32} {c_this_hitPass : Nat → Int32} {c_this_hitNozzle : Nat → Int32} {c_this_hitPrints : Nat → Int32} {c_this_canMany : Nat → Int32} {c_this_printedBy : Nat → Int32} {c_this_missing : Nat → Int32} {c_this_prints : Nat → Int32} {c_this_gutter : Nat → Int32} {post : Int32 → (Int32 × Int32 × Int32 × Int32 × Int32 × (Nat → Int32) × (Nat → Int32) × (Nat → Int32) × (Nat → Int32) × (Nat → Int32) × (Nat → Int32) × (Nat → Int32) × (Nat → Int32) × (Nat → Int32) × (Nat → Int32) × (Nat → Int32)) → Prop} (I : RefI d s n ek ea en c_this_told c_this_head f_this_events c_this_eventKind c_this_eventAt c_this_eventNozzle) (h : ∀ u, post (aTests s (al0 n ek ea en) x1 x2 x3) u) : wp_X4_tests x1 x2 x3 f_this_events f_this_notEvents f_this_deadNow f_this_allMissed f_this_allWanted f_this_allPrinted c_this_told c_this_head c_this_eventKind c_this_eventAt c_this_eventNozzle c_this_dots c_this_now c_this_hitMany c_this_hitPass c_this_hitNozzle c_this_hitPrints c_this_canMany c_this_printedBy c_this_missing c_this_prints c_this_gutter post := by
  unfold wp_X4_tests
  unfold aTests ans_in at h
  by_cases c1 : (0 : Int32) ≤ x2 ∧ x2 ≤ 16
  · refine r_inT c1 (no1 one0 ?_)
    by_cases c2 : (0 : Int32) ≤ x3 ∧ x3 ≤ 1
    · refine r_twoT c2 (no1 one0 ?_)
      rw [if_pos ⟨c1, c2⟩] at h
      obtain ⟨nn, hn, e⟩ := (q_rng (n := 16) (by decide)).mp c1
      subst e
      obtain ⟨w, hw, e⟩ := (q_rng (n := 1) (by decide)).mp c2
      subst e
      rw [nI_clamp (by omega), nI_clamp (by omega)] at h
      exact r_testsOf I hn hw (fun u => h _)
    · rw [if_neg (fun q => c2 q.2)] at h
      exact r_twoF c2 (yes1 rfl (h _))
  · rw [if_neg (fun q => c1 q.1)] at h
    exact r_inF c1 (yes1 rfl (h _))
