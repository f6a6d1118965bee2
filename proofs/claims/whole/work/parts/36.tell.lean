/-! what is told: line, set, event, back, seen, forget -/
def ClsT (d s : Nat → Nat) (n : Nat) (ek ea en : Nat → Nat) (str : Int32) (pic head liv hc hp ph md fp lp dp gt : Nat → Int32) : Prop := Hd s head ∧ PicOk d pic ∧ LivOk (al0 n ek ea en) liv ∧ PlanOk s (al0 n ek ea en) d str hc hp ph md fp lp dp gt
def ClsE (n : Nat) (ek ea en : Nat → Nat) (sz : Int32) (ck ca cn : Nat → Int32) : Prop := EvOk n ek ea en ck ca cn ∧ sz = nI n
/-- line -/
def opLine (d : Nat → Nat) (x1 x2 : Int32) : Int32 × (Nat → Nat) := if ((0 : Int32) ≤ x1 ∧ x1 ≤ 15) ∧ ((0 : Int32) ≤ x2 ∧ x2 ≤ 255) then (nI (d x1.toNatClampNeg), va_up d x1.toNatClampNeg x2.toNatClampNeg) else (-2, d)
theorem pic_up {d : Nat → Nat} {pic : Nat → Int32} (h : PicOk d pic) {y v : Nat} (hv : v < 256) : PicOk (va_up d y v) (upd pic y (nI v)) := by
  intro z hz
  by_cases e : z = y
  · subst e; rw [pk_us, va_up_self]; exact ⟨rfl, hv⟩
  · rw [pk_un e, va_up_ne _ _ e]; exact h z hz
theorem s_line {d s : Nat → Nat} {n : Nat} {ek ea en : Nat → Nat} {x1 : Int32} {x2 : Int32} {f_this_told_strayed : Int32} {c_this_told_picture : Nat → Int32} {c_this_told_head : Nat → Int32} {c_this_told_living : Nat → Int32} {c_this_told_hitCount : Nat → Int32} {c_this_told_hitPlace : Nat → Int32} {c_this_told_printingHit : Nat → Int32} {c_this_told_missedDots : Nat → Int32} {c_this_told_firstPass : Nat → Int32} {c_this_told_lastPass : Nat → Int32} {c_this_told_dotsPrinted : Nat → Int32} {c_this_told_gutter : Nat → Int32} {c_this_told_canColumns : Nat → Int32} {c_this_told_canCount : Nat → Int32} {post : Int32 → (Int32 × (Nat → Int32) × (Nat → Int32) × (Nat → Int32) × (Nat → Int32) × (Nat → Int32) × (Nat → Int32) × (Nat → Int32) × (Nat → Int32) × (Nat → Int32) × (Nat → Int32) × (Nat → Int32)) → Prop} (T : ClsT d s n ek ea en f_this_told_strayed c_this_told_picture c_this_told_head c_this_told_living c_this_told_hitCount c_this_told_hitPlace c_this_told_printingHit c_this_told_missedDots c_this_told_firstPass c_this_told_lastPass c_this_told_dotsPrinted c_this_told_gutter) (h : ∀ str pic hc hp ph md fp lp dp gt cc cn, ClsT (opLine d x1 x2).2 s n ek ea en str pic c_this_told_head c_this_told_living hc hp ph md fp lp dp gt → post (opLine d x1 x2).1 (str, pic, hc, hp, ph, md, fp, lp, dp, gt, cc, cn)) : wp_X3_line x1 x2 f_this_told_strayed c_this_told_picture c_this_told_head c_this_told_living c_this_told_hitCount c_this_told_hitPlace c_this_told_printingHit c_this_told_missedDots c_this_told_firstPass c_this_told_lastPass c_this_told_dotsPrinted c_this_told_gutter c_this_told_canColumns c_this_told_canCount post := by
  obtain ⟨t1, t2, t3, t4⟩ := id T
  unfold wp_X3_line
  unfold opLine at h
  by_cases c1 : (0 : Int32) ≤ x1 ∧ x1 ≤ 15
  · refine s_lineT c1 (no1 one0 ?_)
    by_cases c2 : (0 : Int32) ≤ x2 ∧ x2 ≤ 255
    · refine s_withinT c2 (no2 one0 ?_)
      simp only [if_pos (And.intro c1 c2)] at h
      obtain ⟨y, hy, e⟩ := (q_rng (n := 15) (by decide)).mp c1
      subst e
      obtain ⟨v, hv, e⟩ := (q_rng (n := 255) (by decide)).mp c2
      subst e
      rw [nI_clamp (by omega), nI_clamp (by omega)] at h
      refine ⟨vp_in_nI (by omega) (by omega), ?_⟩
      rw [forall_eq, nI_clamp (by omega), (t2 y (by omega)).1]
      refine ⟨vp_in_nI (by omega) (by omega), ?_⟩
      have hp := pic_up t2 (y := y) (v := v) (by omega)
      exact s_print t1 t3 hp (fun str hc hp' ph md fp lp dp gt cc cn hP => h _ _ _ _ _ _ _ _ _ _ _ _ ⟨t1, hp, t3, hP⟩)
    · simp only [if_neg (fun q : _ ∧ _ => c2 q.2)] at h
      exact s_withinF c2 (yes2 rfl (h _ _ _ _ _ _ _ _ _ _ _ _ T))
  · simp only [if_neg (fun q : _ ∧ _ => c1 q.1)] at h
    exact s_lineF c1 (yes1 rfl (h _ _ _ _ _ _ _ _ _ _ _ _ T))
theorem r_line {d : Nat → Nat} {x1 : Int32} {x2 : Int32} {c_this_told : Nat → Int32} {post : Int32 → ((Nat → Int32)) → Prop} (hp : PicOk d c_this_told) (h : ∀ t, PicOk (opLine d x1 x2).2 t → post (opLine d x1 x2).1 t) : wp_X4_line x1 x2 c_this_told post := by
  unfold wp_X4_line
  unfold opLine at h
  by_cases c1 : (0 : Int32) ≤ x1 ∧ x1 ≤ 15
  · refine r_lineT c1 (no1 one0 ?_)
    by_cases c2 : (0 : Int32) ≤ x2 ∧ x2 ≤ 255
    · refine r_inT c2 (no2 one0 ?_)
      simp only [if_pos (And.intro c1 c2)] at h
      obtain ⟨y, hy, e⟩ := (q_rng (n := 15) (by decide)).mp c1
      subst e
      obtain ⟨v, hv, e⟩ := (q_rng (n := 255) (by decide)).mp c2
      subst e
      rw [nI_clamp (by omega), nI_clamp (by omega)] at h
      refine ⟨vp_in_nI (by omega) (by omega), ?_⟩
      rw [forall_eq, nI_clamp (by omega), (hp y (by omega)).1]
      exact ⟨vp_in_nI (by omega) (by omega), h _ (pic_up hp (by omega))⟩
    · simp only [if_neg (fun q : _ ∧ _ => c2 q.2)] at h
      exact r_inF c2 (yes2 rfl (h _ hp))
  · simp only [if_neg (fun q : _ ∧ _ => c1 q.1)] at h
    exact r_lineF c1 (yes1 rfl (h _ hp))
/-- set -/
def svN (k : Nat) (x : Int32) : Nat := if k = 4 then (-x).toNatClampNeg else x.toNatClampNeg
def opSet (s : Nat → Nat) (x1 x2 : Int32) : Int32 × (Nat → Nat) := if ((0 : Int32) ≤ x1 ∧ x1 ≤ 8) ∧ (jtL x1.toNatClampNeg ≤ x2 ∧ x2 ≤ jtH x1.toNatClampNeg) then (hv s x1.toNatClampNeg, va_up s x1.toNatClampNeg (svN x1.toNatClampNeg x2)) else (-2147483648, s)
def loN (k : Nat) : Nat := if k = 7 ∨ k = 8 then 0 else 1
def hiN (k : Nat) : Nat := if k = 0 then 8 else if k = 1 then 5 else if k = 2 then 12 else if k = 3 then 12 else if k = 5 then 8 else if k = 6 then 6 else 3
theorem jt_lh : ∀ k, k < 9 → k ≠ 4 → jtL k = nI (loN k) ∧ jtH k = nI (hiN k) := by decide
theorem q_rng2 {x : Int32} {lo hi : Nat} (hlo : lo < 2 ^ 31) (hhi : hi < 2 ^ 31) (h : nI lo ≤ x ∧ x ≤ nI hi) : ∃ v, lo ≤ v ∧ v ≤ hi ∧ x = nI v := by
  have h0 : (0 : Int32) ≤ x := Int32.le_trans (nI_pos' hlo) h.1
  obtain ⟨v, hv, e⟩ := (q_rng hhi).mp ⟨h0, h.2⟩
  subst e
  exact ⟨v, (nI_leI hlo (by omega)).mp h.1, hv, rfl⟩
theorem q_rngm {x : Int32} (h : (-20 : Int32) ≤ x ∧ x ≤ 0) : ∃ a, a ≤ 20 ∧ x = -nI a := by
  rw [Int32.le_iff_toInt_le, Int32.le_iff_toInt_le] at h
  have e1 : (-20 : Int32).toInt = -20 := by decide
  have e2 : (0 : Int32).toInt = 0 := by decide
  rw [e1, e2] at h
  refine ⟨(-x.toInt).toNat, by omega, Int32.toInt_inj.mp ?_⟩
  have e3 : (nI (-x.toInt).toNat).toInt = -x.toInt := by rw [nI_toInt (by omega)]; omega
  rw [fb_negI (by rw [e3]; omega), e3]; omega
theorem q_neg {a : Nat} (h : a ≤ 20) : (-(-nI a)).toNatClampNeg = a := by rw [Int32.neg_neg, nI_clamp (by omega)]
theorem up_ok {s : Nat → Nat} (H : Hok s) {k v : Nat} (hk : k < 9) (h : if k = 4 then v ≤ 20 else (loN k ≤ v ∧ v ≤ hiN k)) : Hok (va_up s k v) := by
  obtain ⟨a0, a1, a2, a3, a4, a5, a6, a7, a8⟩ := H
  have up : ∀ j, va_up s k v j = if j = k then v else s j := fun j => by
    by_cases c : j = k
    · subst c; rw [va_up_self, if_pos rfl]
    · rw [va_up_ne _ _ c, if_neg c]
  unfold Hok
  simp only [up]
  have : k = 0 ∨ k = 1 ∨ k = 2 ∨ k = 3 ∨ k = 4 ∨ k = 5 ∨ k = 6 ∨ k = 7 ∨ k = 8 := by omega
  rcases this with e | e | e | e | e | e | e | e | e <;> subst e <;> simp [loN, hiN] at h ⊢ <;> omega
theorem set_ok {s : Nat → Nat} {head : Nat → Int32} (hh : Hd s head) {k : Nat} {x : Int32} (hk : k < 9) (hx : jtL k ≤ x ∧ x ≤ jtH k) : Hd (va_up s k (svN k x)) (upd head k x) := by
  have fin : (if k = 4 then svN k x ≤ 20 else (loN k ≤ svN k x ∧ svN k x ≤ hiN k)) → x = (if k = 4 then -nI (svN k x) else nI (svN k x)) → Hd (va_up s k (svN k x)) (upd head k x) := by
    intro h1 h2
    refine ⟨up_ok hh.1 hk h1, fun j hj => ?_⟩
    by_cases e : j = k
    · subst e
      rw [pk_us]
      unfold hv
      by_cases c : j = 4
      · subst c; rw [if_pos rfl, va_up_self]; exact h2
      · rw [if_neg c, va_up_self]; rw [if_neg c] at h2; exact h2
    · rw [pk_un e, hh.2 j hj]
      unfold hv
      by_cases c : j = 4
      · subst c; rw [if_pos rfl, if_pos rfl, va_up_ne _ _ e]
      · rw [if_neg c, if_neg c, va_up_ne _ _ e]
  by_cases c : k = 4
  · subst c
    obtain ⟨a, ha, e⟩ := q_rngm hx
    subst e
    refine fin ?_ ?_
    · rw [if_pos rfl]; unfold svN; rw [if_pos rfl, q_neg ha]; exact ha
    · rw [if_pos rfl]; unfold svN; rw [if_pos rfl, q_neg ha]
  · obtain ⟨j1, j2⟩ := jt_lh k hk c
    rw [j1, j2] at hx
    have hb : loN k < 2 ^ 31 ∧ hiN k < 2 ^ 31 := by
      have h : ∀ k, k < 9 → loN k < 100 ∧ hiN k < 100 := by decide
      have := h k hk
      omega
    obtain ⟨v, v1, v2, e⟩ := q_rng2 hb.1 hb.2 hx
    subst e
    have es : svN k (nI v) = v := by unfold svN; rw [if_neg c, nI_clamp (by omega)]
    refine fin ?_ ?_
    · rw [if_neg c, es]; exact ⟨v1, v2⟩
    · rw [if_neg c, es]
theorem s_set {d s : Nat → Nat} {n : Nat} {ek ea en : Nat → Nat} {x1 : Int32} {x2 : Int32} {f_this_told_strayed : Int32} {c_this_told_picture : Nat → Int32} {c_this_told_head : Nat → Int32} {c_this_told_living : Nat → Int32} {c_this_told_hitCount : Nat → Int32} {c_this_told_hitPlace : Nat → Int32} {c_this_told_printingHit : Nat → Int32} {c_this_told_missedDots : Nat → Int32} {c_this_told_firstPass : Nat → Int32} {c_this_told_lastPass : Nat → Int32} {c_this_told_dotsPrinted : Nat → Int32} {c_this_told_gutter : Nat → Int32} {c_this_told_canColumns : Nat → Int32} {c_this_told_canCount : Nat → Int32} {post : Int32 → (Int32 × (Nat → Int32) × (Nat → Int32) × (Nat → Int32) × (Nat → Int32) × (Nat → Int32) × (Nat → Int32) × (Nat → Int32) × (Nat → Int32) × (Nat → Int32) × (Nat → Int32) × (Nat → Int32)) → Prop} (T : ClsT d s n ek ea en f_this_told_strayed c_this_told_picture c_this_told_head c_this_told_living c_this_told_hitCount c_this_told_hitPlace c_this_told_printingHit c_this_told_missedDots c_this_told_firstPass c_this_told_lastPass c_this_told_dotsPrinted c_this_told_gutter) (h : ∀ str hd hc hp ph md fp lp dp gt cc cn, ClsT d (opSet s x1 x2).2 n ek ea en str c_this_told_picture hd c_this_told_living hc hp ph md fp lp dp gt → post (opSet s x1 x2).1 (str, hd, hc, hp, ph, md, fp, lp, dp, gt, cc, cn)) : wp_X3_set x1 x2 f_this_told_strayed c_this_told_picture c_this_told_head c_this_told_living c_this_told_hitCount c_this_told_hitPlace c_this_told_printingHit c_this_told_missedDots c_this_told_firstPass c_this_told_lastPass c_this_told_dotsPrinted c_this_told_gutter c_this_told_canColumns c_this_told_canCount post := by
  obtain ⟨t1, t2, t3, t4⟩ := id T
  unfold wp_X3_set
  unfold opSet at h
  by_cases c1 : (0 : Int32) ≤ x1 ∧ x1 ≤ 8
  · refine s_withinT c1 (no1 one0 ?_)
    obtain ⟨k, hk, e⟩ := (q_rng (n := 8) (by decide)).mp c1
    subst e
    rw [nI_clamp (by omega)] at h
    refine ⟨vp_in_nI (by omega) (by omega), ?_⟩
    rw [forall_eq, nI_clamp (by omega)]
    refine ⟨vp_in_nI (by omega) (by omega), ?_⟩
    rw [forall_eq]
    by_cases c2 : jtL k ≤ x2 ∧ x2 ≤ jtH k
    · refine s_withinT c2 (no2 one0 ⟨vp_in_nI (by omega) (by omega), ?_⟩)
      simp only [if_pos (And.intro c1 c2)] at h
      rw [forall_eq, t1.2 k (by omega)]
      refine ⟨vp_in_nI (by omega) (by omega), ?_⟩
      have hd := set_ok t1 (k := k) (by omega) c2
      exact s_print hd t3 t2 (fun str hc hp' ph md fp lp dp gt cc cn hP => h _ _ _ _ _ _ _ _ _ _ _ _ ⟨hd, t2, t3, hP⟩)
    · simp only [if_neg (fun q : _ ∧ _ => c2 q.2)] at h
      exact s_withinF c2 (yes2 rfl (h _ _ _ _ _ _ _ _ _ _ _ _ T))
  · simp only [if_neg (fun q : _ ∧ _ => c1 q.1)] at h
    exact s_withinF c1 (yes1 rfl (h _ _ _ _ _ _ _ _ _ _ _ _ T))
theorem r_isSetting {x0 x1 : Int32} {post : Int32 → Unit → Prop} (h : post (b01 (decide (((0 : Int32) ≤ x0 ∧ x0 ≤ 8) ∧ (jtL x0.toNatClampNeg ≤ x1 ∧ x1 ≤ jtH x0.toNatClampNeg)))) ()) : wp_X4_isSetting x0 x1 post := by
  unfold wp_X4_isSetting
  by_cases c1 : (0 : Int32) ≤ x0 ∧ x0 ≤ 8
  · obtain ⟨k, hk, e⟩ := (q_rng (n := 8) (by decide)).mp c1
    subst e
    rw [nI_clamp (by omega)] at h
    have e2 : decide (((0 : Int32) ≤ nI k ∧ nI k ≤ 8) ∧ (jtL k ≤ x1 ∧ x1 ≤ jtH k)) = decide (jtL k ≤ x1 ∧ x1 ≤ jtH k) := by
      simp only [decide_eq_decide]; exact ⟨fun q => q.2, fun q => ⟨c1, q⟩⟩
    rw [e2] at h
    have go : ∀ (lo hi : Int32), jtL k = lo → jtH k = hi → wp_X4_in x1 lo hi (fun r u => ((r = 0 ∨ r = 1) ∧ post r ())) := by
      intro lo hi e3 e4
      subst e3; subst e4
      exact s_in ⟨(b01_or _).mpr trivial, h⟩
    have : k = 0 ∨ k = 1 ∨ k = 2 ∨ k = 3 ∨ k = 4 ∨ k = 5 ∨ k = 6 ∨ k = 7 ∨ k = 8 := by omega
    rcases this with e | e | e | e | e | e | e | e | e <;> subst e
    · exact yes1 (by decide) (go _ _ rfl rfl)
    · exact no1 (by decide) (yes1 (by decide) (go _ _ rfl rfl))
    · exact no1 (by decide) (no1 (by decide) (yes1 (by decide) (go _ _ rfl rfl)))
    · exact no1 (by decide) (no1 (by decide) (no1 (by decide) (yes1 (by decide) (go _ _ rfl rfl))))
    · exact no1 (by decide) (no1 (by decide) (no1 (by decide) (no1 (by decide) (yes1 (by decide) (go _ _ rfl rfl)))))
    · exact no1 (by decide) (no1 (by decide) (no1 (by decide) (no1 (by decide) (no1 (by decide) (yes1 (by decide) (go _ _ rfl rfl))))))
    · exact no1 (by decide) (no1 (by decide) (no1 (by decide) (no1 (by decide) (no1 (by decide) (no1 (by decide) (yes1 (by decide) (go _ _ rfl rfl)))))))
    · exact no1 (by decide) (no1 (by decide) (no1 (by decide) (no1 (by decide) (no1 (by decide) (no1 (by decide) (no1 (by decide) (yes1 (by decide) (go _ _ rfl rfl))))))))
    · exact no1 (by decide) (no1 (by decide) (no1 (by decide) (no1 (by decide) (no1 (by decide) (no1 (by decide) (no1 (by decide) (no1 (by decide) (yes1 (by decide) (go _ _ rfl rfl)))))))))
  · rw [decide_eq_false (fun q => c1 q.1)] at h
    have ne : ∀ k : Nat, k ≤ 8 → ¬ x0 = nI k := fun k hk q => c1 (by rw [q]; exact in_nI (n := 8) hk (by decide))
    exact no1 (ne 0 (by decide)) (no1 (ne 1 (by decide)) (no1 (ne 2 (by decide)) (no1 (ne 3 (by decide)) (no1 (ne 4 (by decide)) (no1 (ne 5 (by decide)) (no1 (ne 6 (by decide)) (no1 (ne 7 (by decide)) (no1 (ne 8 (by decide)) h))))))))
theorem r_set {s : Nat → Nat} {x1 : Int32} {x2 : Int32} {c_this_head : Nat → Int32} {post : Int32 → ((Nat → Int32)) → Prop} (hh : Hd s c_this_head) (h : ∀ t, Hd (opSet s x1 x2).2 t → post (opSet s x1 x2).1 t) : wp_X4_set x1 x2 c_this_head post := by
  unfold wp_X4_set
  unfold opSet at h
  refine r_isSetting ?_
  by_cases c : ((0 : Int32) ≤ x1 ∧ x1 ≤ 8) ∧ (jtL x1.toNatClampNeg ≤ x2 ∧ x2 ≤ jtH x1.toNatClampNeg)
  · rw [decide_eq_true c]
    simp only [if_pos c] at h
    obtain ⟨c1, c2⟩ := c
    obtain ⟨k, hk, e⟩ := (q_rng (n := 8) (by decide)).mp c1
    subst e
    rw [nI_clamp (by omega)] at h c2
    refine no2 one0 ⟨vp_in_nI (by omega) (by omega), ?_⟩
    rw [forall_eq, nI_clamp (by omega), hh.2 k (by omega)]
    exact ⟨vp_in_nI (by omega) (by omega), h _ (set_ok hh (by omega) c2)⟩
  · rw [decide_eq_false c]
    simp only [if_neg c] at h
    exact yes2 rfl (h _ hh)
/-- event, back -/
abbrev Evs : Type := Nat × (Nat → Nat) × (Nat → Nat) × (Nat → Nat)
def opEvent (n : Nat) (ek ea en : Nat → Nat) (x1 x2 x3 : Int32) : Int32 × Evs := if ((0 : Int32) ≤ x1 ∧ x1 ≤ 1) ∧ ((0 : Int32) ≤ x2 ∧ x2 ≤ 11) ∧ ((0 : Int32) ≤ x3 ∧ x3 ≤ 7) then (if n < 8 then (nI (n + 1), n + 1, va_up ek n x1.toNatClampNeg, va_up ea n x2.toNatClampNeg, va_up en n x3.toNatClampNeg) else (-4, n, ek, ea, en)) else (-2, n, ek, ea, en)
theorem ev_up {n : Nat} {ek ea en : Nat → Nat} {ck ca cn : Nat → Int32} (h : EvOk n ek ea en ck ca cn) (hn : n < 8) {k p j : Nat} (hk : k ≤ 1) (hp : p < 12) (hj : j < 8) : EvOk (n + 1) (va_up ek n k) (va_up ea n p) (va_up en n j) (upd ck n (nI k)) (upd ca n (nI p)) (upd cn n (nI j)) := by
  refine ⟨by omega, fun e he => ?_⟩
  by_cases c : e = n
  · subst c
    rw [pk_us, pk_us, pk_us, va_up_self, va_up_self, va_up_self]
    exact ⟨⟨rfl, rfl, rfl⟩, hk, hp, hj⟩
  · rw [pk_un c, pk_un c, pk_un c, va_up_ne _ _ c, va_up_ne _ _ c, va_up_ne _ _ c]
    exact h.2 e (by omega)
theorem s_event {d s : Nat → Nat} {n : Nat} {ek ea en : Nat → Nat} {x1 : Int32} {x2 : Int32} {x3 : Int32} {f_this_told_strayed : Int32} {c_this_told_picture : Nat → Int32} {c_this_told_head : Nat → Int32} {c_this_told_living : Nat → Int32} {c_this_told_hitCount : Nat → Int32} {c_this_told_hitPlace : Nat → Int32} {c_this_told_printingHit : Nat → Int32} {c_this_told_missedDots : Nat → Int32} {c_this_told_firstPass : Nat → Int32} {c_this_told_lastPass : Nat → Int32} {c_this_told_dotsPrinted : Nat → Int32} {c_this_told_gutter : Nat → Int32} {c_this_told_canColumns : Nat → Int32} {c_this_told_canCount : Nat → Int32} {f_this_events_size : Int32} {c_this_events_kinds : Nat → Int32} {c_this_events_passes : Nat → Int32} {c_this_events_nozzles : Nat → Int32} {post : Int32 → (Int32 × (Nat → Int32) × (Nat → Int32) × (Nat → Int32) × (Nat → Int32) × (Nat → Int32) × (Nat → Int32) × (Nat → Int32) × (Nat → Int32) × (Nat → Int32) × (Nat → Int32) × (Nat → Int32) × Int32 × (Nat → Int32) × (Nat → Int32) × (Nat → Int32)) → Prop} (T : ClsT d s n ek ea en f_this_told_strayed c_this_told_picture c_this_told_head c_this_told_living c_this_told_hitCount c_this_told_hitPlace c_this_told_printingHit c_this_told_missedDots c_this_told_firstPass c_this_told_lastPass c_this_told_dotsPrinted c_this_told_gutter) (E : ClsE n ek ea en f_this_events_size c_this_events_kinds c_this_events_passes c_this_events_nozzles) (h : ∀ str liv hc hp ph md fp lp dp gt cc cn sz ck ca cn', ClsT d s (opEvent n ek ea en x1 x2 x3).2.1 (opEvent n ek ea en x1 x2 x3).2.2.1 (opEvent n ek ea en x1 x2 x3).2.2.2.1 (opEvent n ek ea en x1 x2 x3).2.2.2.2 str c_this_told_picture c_this_told_head liv hc hp ph md fp lp dp gt → ClsE (opEvent n ek ea en x1 x2 x3).2.1 (opEvent n ek ea en x1 x2 x3).2.2.1 (opEvent n ek ea en x1 x2 x3).2.2.2.1 (opEvent n ek ea en x1 x2 x3).2.2.2.2 sz ck ca cn' → post (opEvent n ek ea en x1 x2 x3).1 (str, liv, hc, hp, ph, md, fp, lp, dp, gt, cc, cn, sz, ck, ca, cn')) : wp_X3_event x1 x2 x3 f_this_told_strayed c_this_told_picture c_this_told_head c_this_told_living c_this_told_hitCount c_this_told_hitPlace c_this_told_printingHit c_this_told_missedDots c_this_told_firstPass c_this_told_lastPass c_this_told_dotsPrinted c_this_told_gutter c_this_told_canColumns c_this_told_canCount f_this_events_size c_this_events_kinds c_this_events_passes c_this_events_nozzles post := by
  obtain ⟨t1, t2, t3, t4⟩ := id T
  obtain ⟨e1, e2⟩ := id E
  have hn := e1.1
  unfold wp_X3_event
  unfold opEvent at h
  by_cases c1 : (0 : Int32) ≤ x1 ∧ x1 ≤ 1
  · refine s_withinT c1 (no1 one0 ?_)
    by_cases c2 : (0 : Int32) ≤ x2 ∧ x2 ≤ 11
    · refine s_withinT c2 (no1 one0 ?_)
      by_cases c3 : (0 : Int32) ≤ x3 ∧ x3 ≤ 7
      · refine s_withinT c3 (no2 one0 ?_)
        simp only [if_pos (And.intro c1 (And.intro c2 c3))] at h
        rw [e2, show (8 : Int32) = nI 8 from rfl, nI_ltI (by omega) (by omega)]
        by_cases c8 : n < 8
        · refine yes1 c8 ?_
          simp only [if_pos c8] at h
          obtain ⟨k, hk, e⟩ := (q_rng (n := 1) (by decide)).mp c1
          subst e
          obtain ⟨p, hp, e⟩ := (q_rng (n := 11) (by decide)).mp c2
          subst e
          obtain ⟨j, hj, e⟩ := (q_rng (n := 7) (by decide)).mp c3
          subst e
          rw [nI_clamp (by omega), nI_clamp (by omega), nI_clamp (by omega)] at h
          unfold wp_X0_add
          refine ⟨vp_in_nI (by omega) (by omega), vp_in_nI (by omega) (by omega), vp_in_nI (by omega) (by omega), ?_⟩
          rw [forall_eq, nI_clamp (by omega), show (1 : Int32) = nI 1 from rfl, nI_add]
          dsimp only
          have hE := ev_up e1 c8 hk (p := p) (j := j) (by omega) (by omega)
          refine s_all (by omega) (s_livingBy hE (by have := pw8 (n := n + 1) (by omega); omega) (fun l hL => ?_))
          rw [alv_cong (c2 := fun _ => true) (fun e he => by rw [Nat.testBit_two_pow_sub_one, decide_eq_true he])] at hL
          exact s_print t1 hL t2 (fun str hc hp' ph md fp lp dp gt cc cn hP => h _ _ _ _ _ _ _ _ _ _ _ _ _ _ _ _ ⟨t1, t2, hL, hP⟩ ⟨hE, rfl⟩)
        · refine no1 c8 ?_
          simp only [if_neg c8] at h
          rw [← e2]
          exact h _ _ _ _ _ _ _ _ _ _ _ _ _ _ _ _ T E
      · simp only [if_neg (fun q : _ ∧ _ ∧ _ => c3 q.2.2)] at h
        exact s_withinF c3 (yes2 rfl (h _ _ _ _ _ _ _ _ _ _ _ _ _ _ _ _ T E))
    · simp only [if_neg (fun q : _ ∧ _ ∧ _ => c2 q.2.1)] at h
      exact s_withinF c2 (yes1 rfl (h _ _ _ _ _ _ _ _ _ _ _ _ _ _ _ _ T E))
  · simp only [if_neg (fun q : _ ∧ _ ∧ _ => c1 q.1)] at h
    exact s_withinF c1 (yes1 rfl (h _ _ _ _ _ _ _ _ _ _ _ _ _ _ _ _ T E))
theorem r_event {n : Nat} {ek ea en : Nat → Nat} {x1 : Int32} {x2 : Int32} {x3 : Int32} {f_this_events : Int32} {c_this_eventKind : Nat → Int32} {c_this_eventAt : Nat → Int32} {c_this_eventNozzle : Nat → Int32} {post : Int32 → (Int32 × (Nat → Int32) × (Nat → Int32) × (Nat → Int32)) → Prop} (E : ClsE n ek ea en f_this_events c_this_eventKind c_this_eventAt c_this_eventNozzle) (h : ∀ sz ck ca cn', ClsE (opEvent n ek ea en x1 x2 x3).2.1 (opEvent n ek ea en x1 x2 x3).2.2.1 (opEvent n ek ea en x1 x2 x3).2.2.2.1 (opEvent n ek ea en x1 x2 x3).2.2.2.2 sz ck ca cn' → post (opEvent n ek ea en x1 x2 x3).1 (sz, ck, ca, cn')) : wp_X4_event x1 x2 x3 f_this_events c_this_eventKind c_this_eventAt c_this_eventNozzle post := by
  obtain ⟨e1, e2⟩ := id E
  have hn := e1.1
  unfold wp_X4_event
  unfold opEvent at h
  by_cases c1 : (0 : Int32) ≤ x1 ∧ x1 ≤ 1
  · refine r_twoT c1 (no1 one0 ?_)
    by_cases c2 : (0 : Int32) ≤ x2 ∧ x2 ≤ 11
    · refine r_inT c2 (no1 one0 ?_)
      by_cases c3 : (0 : Int32) ≤ x3 ∧ x3 ≤ 7
      · refine r_inT c3 (no2 one0 ?_)
        simp only [if_pos (And.intro c1 (And.intro c2 c3))] at h
        rw [e2, show (8 : Int32) = nI 8 from rfl, nI_eq (by omega) (by omega)]
        by_cases c8 : n < 8
        · refine no2 (by omega) ?_
          simp only [if_pos c8] at h
          obtain ⟨k, hk, e⟩ := (q_rng (n := 1) (by decide)).mp c1
          subst e
          obtain ⟨p, hp, e⟩ := (q_rng (n := 11) (by decide)).mp c2
          subst e
          obtain ⟨j, hj, e⟩ := (q_rng (n := 7) (by decide)).mp c3
          subst e
          rw [nI_clamp (by omega), nI_clamp (by omega), nI_clamp (by omega)] at h
          refine ⟨vp_in_nI (by omega) (by omega), vp_in_nI (by omega) (by omega), vp_in_nI (by omega) (by omega), ?_⟩
          rw [forall_eq, nI_clamp (by omega), show (1 : Int32) = nI 1 from rfl, nI_add]
          exact h _ _ _ _ ⟨ev_up e1 c8 hk (by omega) (by omega), rfl⟩
        · refine yes2 (by omega) ?_
          simp only [if_neg c8] at h
          rw [← e2]
          exact h _ _ _ _ E
      · simp only [if_neg (fun q : _ ∧ _ ∧ _ => c3 q.2.2)] at h
        exact r_inF c3 (yes2 rfl (h _ _ _ _ E))
    · simp only [if_neg (fun q : _ ∧ _ ∧ _ => c2 q.2.1)] at h
      exact r_inF c2 (yes1 rfl (h _ _ _ _ E))
  · simp only [if_neg (fun q : _ ∧ _ ∧ _ => c1 q.1)] at h
    exact r_twoF c1 (yes1 rfl (h _ _ _ _ E))
def opBack (n : Nat) : Int32 × Nat := if 0 < n then (nI (n - 1), n - 1) else (-3, n)
theorem ev_dn {n : Nat} {ek ea en : Nat → Nat} {ck ca cn : Nat → Int32} (h : EvOk n ek ea en ck ca cn) : EvOk (n - 1) ek ea en ck ca cn := ⟨by have := h.1; omega, fun e he => h.2 e (by omega)⟩
theorem s_back {d s : Nat → Nat} {n : Nat} {ek ea en : Nat → Nat} {f_this_told_strayed : Int32} {c_this_told_picture : Nat → Int32} {c_this_told_head : Nat → Int32} {c_this_told_living : Nat → Int32} {c_this_told_hitCount : Nat → Int32} {c_this_told_hitPlace : Nat → Int32} {c_this_told_printingHit : Nat → Int32} {c_this_told_missedDots : Nat → Int32} {c_this_told_firstPass : Nat → Int32} {c_this_told_lastPass : Nat → Int32} {c_this_told_dotsPrinted : Nat → Int32} {c_this_told_gutter : Nat → Int32} {c_this_told_canColumns : Nat → Int32} {c_this_told_canCount : Nat → Int32} {f_this_events_size : Int32} {c_this_events_kinds : Nat → Int32} {c_this_events_passes : Nat → Int32} {c_this_events_nozzles : Nat → Int32} {post : Int32 → (Int32 × (Nat → Int32) × (Nat → Int32) × (Nat → Int32) × (Nat → Int32) × (Nat → Int32) × (Nat → Int32) × (Nat → Int32) × (Nat → Int32) × (Nat → Int32) × (Nat → Int32) × (Nat → Int32) × Int32) → Prop} (T : ClsT d s n ek ea en f_this_told_strayed c_this_told_picture c_this_told_head c_this_told_living c_this_told_hitCount c_this_told_hitPlace c_this_told_printingHit c_this_told_missedDots c_this_told_firstPass c_this_told_lastPass c_this_told_dotsPrinted c_this_told_gutter) (E : ClsE n ek ea en f_this_events_size c_this_events_kinds c_this_events_passes c_this_events_nozzles) (h : ∀ str liv hc hp ph md fp lp dp gt cc cn sz, ClsT d s (opBack n).2 ek ea en str c_this_told_picture c_this_told_head liv hc hp ph md fp lp dp gt → ClsE (opBack n).2 ek ea en sz c_this_events_kinds c_this_events_passes c_this_events_nozzles → post (opBack n).1 (str, liv, hc, hp, ph, md, fp, lp, dp, gt, cc, cn, sz)) : wp_X3_back f_this_told_strayed c_this_told_picture c_this_told_head c_this_told_living c_this_told_hitCount c_this_told_hitPlace c_this_told_printingHit c_this_told_missedDots c_this_told_firstPass c_this_told_lastPass c_this_told_dotsPrinted c_this_told_gutter c_this_told_canColumns c_this_told_canCount f_this_events_size c_this_events_kinds c_this_events_passes c_this_events_nozzles post := by
  obtain ⟨t1, t2, t3, t4⟩ := id T
  obtain ⟨e1, e2⟩ := id E
  have hn := e1.1
  unfold wp_X3_back
  unfold opBack at h
  have q0 : ((0 : Int32) < f_this_events_size) ↔ 0 < n := by rw [e2]; exact nI_ltI (a := 0) (by omega) (by omega)
  rw [q0]
  by_cases c : 0 < n
  · refine yes1 c ?_
    simp only [if_pos c] at h
    rw [forall_eq, e2, show (1 : Int32) = nI 1 from rfl, pk_sub c]
    have hE := ev_dn e1
    refine s_all (n := n - 1) (by omega) (s_livingBy (n := n - 1) (cb := 2 ^ (n - 1) - 1) hE (by have := pw8 (n := n - 1) (by omega); omega) (fun l hL => ?_))
    rw [alv_cong (c2 := fun _ => true) (fun e he => by rw [Nat.testBit_two_pow_sub_one, decide_eq_true he])] at hL
    exact s_print t1 hL t2 (fun str hc hp' ph md fp lp dp gt cc cn hP => h _ _ _ _ _ _ _ _ _ _ _ _ _ ⟨t1, t2, hL, hP⟩ ⟨hE, rfl⟩)
  · simp only [if_neg c] at h
    exact no1 c (h _ _ _ _ _ _ _ _ _ _ _ _ _ T E)
theorem r_back {n : Nat} {ek ea en : Nat → Nat} {ck ca cn : Nat → Int32} {f_this_events : Int32} {post : Int32 → Int32 → Prop} (E : ClsE n ek ea en f_this_events ck ca cn) (h : ∀ sz, ClsE (opBack n).2 ek ea en sz ck ca cn → post (opBack n).1 sz) : wp_X4_back f_this_events post := by
  obtain ⟨e1, e2⟩ := id E
  have hn := e1.1
  unfold wp_X4_back
  unfold opBack at h
  have q0 : (f_this_events = 0) ↔ n = 0 := by rw [e2]; exact nI_eq (b := 0) (by omega) (by omega)
  rw [q0]
  by_cases c : 0 < n
  · refine no2 (by omega) ?_
    simp only [if_pos c] at h
    rw [forall_eq, e2, show (1 : Int32) = nI 1 from rfl, pk_sub c]
    exact h _ ⟨ev_dn e1, rfl⟩
  · simp only [if_neg c] at h
    exact yes2 (by omega) (h _ E)
/-- seen, forget -/
abbrev Sns : Type := Nat × (Nat → Nat) × (Nat → Nat)
def opSeen (sn : Nat) (sl sm : Nat → Nat) (x1 x2 : Int32) : Int32 × Sns := if ((0 : Int32) ≤ x1 ∧ x1 ≤ 15) ∧ ((0 : Int32) ≤ x2 ∧ x2 ≤ 8) then (if sn < 8 then (nI (sn + 1), sn + 1, va_up sl sn x1.toNatClampNeg, va_up sm sn x2.toNatClampNeg) else (-4, sn, sl, sm)) else (-2, sn, sl, sm)
theorem seen_up {sn : Nat} {sl sm : Nat → Nat} {sz : Int32} {cl cm' : Nat → Int32} (h : SeenOk sn sl sm sz cl cm') (hn : sn < 8) {y v : Nat} (hy : y < 16) (hv : v ≤ 8) : SeenOk (sn + 1) (va_up sl sn y) (va_up sm sn v) (nI (sn + 1)) (upd cl sn (nI y)) (upd cm' sn (nI v)) := by
  refine ⟨by omega, rfl, fun i hi => ?_⟩
  by_cases c : i = sn
  · subst c
    rw [pk_us, pk_us, va_up_self, va_up_self]
    exact ⟨rfl, rfl, hy, hv⟩
  · rw [pk_un c, pk_un c, va_up_ne _ _ c, va_up_ne _ _ c]
    exact h.2.2 i (by omega)
theorem s_seen {sn : Nat} {sl sm : Nat → Nat} {x1 : Int32} {x2 : Int32} {f_this_seenSize : Int32} {c_this_seenLine : Nat → Int32} {c_this_seenMany : Nat → Int32} {post : Int32 → (Int32 × (Nat → Int32) × (Nat → Int32)) → Prop} (S : SeenOk sn sl sm f_this_seenSize c_this_seenLine c_this_seenMany) (h : ∀ sz cl cm', SeenOk (opSeen sn sl sm x1 x2).2.1 (opSeen sn sl sm x1 x2).2.2.1 (opSeen sn sl sm x1 x2).2.2.2 sz cl cm' → post (opSeen sn sl sm x1 x2).1 (sz, cl, cm')) : wp_X3_seen x1 x2 f_this_seenSize c_this_seenLine c_this_seenMany post := by
  obtain ⟨s1, s2, s3⟩ := id S
  unfold wp_X3_seen
  unfold opSeen at h
  by_cases c1 : (0 : Int32) ≤ x1 ∧ x1 ≤ 15
  · refine s_lineT c1 (no1 one0 ?_)
    by_cases c2 : (0 : Int32) ≤ x2 ∧ x2 ≤ 8
    · refine s_withinT c2 (no2 one0 ?_)
      simp only [if_pos (And.intro c1 c2)] at h
      rw [s2, show (8 : Int32) = nI 8 from rfl, nI_ltI (by omega) (by omega)]
      by_cases c8 : sn < 8
      · refine yes1 c8 ?_
        simp only [if_pos c8] at h
        obtain ⟨y, hy, e⟩ := (q_rng (n := 15) (by decide)).mp c1
        subst e
        obtain ⟨v, hv, e⟩ := (q_rng (n := 8) (by decide)).mp c2
        subst e
        rw [nI_clamp (by omega), nI_clamp (by omega)] at h
        refine ⟨vp_in_nI (by omega) (by omega), vp_in_nI (by omega) (by omega), ?_⟩
        rw [forall_eq, nI_clamp (by omega), show (1 : Int32) = nI 1 from rfl, nI_add]
        exact h _ _ _ (seen_up S c8 (by omega) hv)
      · refine no1 c8 ?_
        simp only [if_neg c8] at h
        rw [← s2]
        exact h _ _ _ S
    · simp only [if_neg (fun q : _ ∧ _ => c2 q.2)] at h
      exact s_withinF c2 (yes2 rfl (h _ _ _ S))
  · simp only [if_neg (fun q : _ ∧ _ => c1 q.1)] at h
    exact s_lineF c1 (yes1 rfl (h _ _ _ S))
theorem r_seen {sn : Nat} {sl sm : Nat → Nat} {x1 : Int32} {x2 : Int32} {f_this_seens : Int32} {c_this_seenLine : Nat → Int32} {c_this_seenMany : Nat → Int32} {post : Int32 → (Int32 × (Nat → Int32) × (Nat → Int32)) → Prop} (S : SeenOk sn sl sm f_this_seens c_this_seenLine c_this_seenMany) (h : ∀ sz cl cm', SeenOk (opSeen sn sl sm x1 x2).2.1 (opSeen sn sl sm x1 x2).2.2.1 (opSeen sn sl sm x1 x2).2.2.2 sz cl cm' → post (opSeen sn sl sm x1 x2).1 (sz, cl, cm')) : wp_X4_seen x1 x2 f_this_seens c_this_seenLine c_this_seenMany post := by
  obtain ⟨s1, s2, s3⟩ := id S
  unfold wp_X4_seen
  unfold opSeen at h
  by_cases c1 : (0 : Int32) ≤ x1 ∧ x1 ≤ 15
  · refine r_lineT c1 (no1 one0 ?_)
    by_cases c2 : (0 : Int32) ≤ x2 ∧ x2 ≤ 8
    · refine r_inT c2 (no2 one0 ?_)
      simp only [if_pos (And.intro c1 c2)] at h
      rw [s2, show (8 : Int32) = nI 8 from rfl, nI_eq (by omega) (by omega)]
      by_cases c8 : sn < 8
      · refine no2 (by omega) ?_
        simp only [if_pos c8] at h
        obtain ⟨y, hy, e⟩ := (q_rng (n := 15) (by decide)).mp c1
        subst e
        obtain ⟨v, hv, e⟩ := (q_rng (n := 8) (by decide)).mp c2
        subst e
        rw [nI_clamp (by omega), nI_clamp (by omega)] at h
        refine ⟨vp_in_nI (by omega) (by omega), vp_in_nI (by omega) (by omega), ?_⟩
        rw [forall_eq, nI_clamp (by omega), show (1 : Int32) = nI 1 from rfl, nI_add]
        exact h _ _ _ (seen_up S c8 (by omega) hv)
      · refine yes2 (by omega) ?_
        simp only [if_neg c8] at h
        rw [← s2]
        exact h _ _ _ S
    · simp only [if_neg (fun q : _ ∧ _ => c2 q.2)] at h
      exact r_inF c2 (yes2 rfl (h _ _ _ S))
  · simp only [if_neg (fun q : _ ∧ _ => c1 q.1)] at h
    exact r_lineF c1 (yes1 rfl (h _ _ _ S))
