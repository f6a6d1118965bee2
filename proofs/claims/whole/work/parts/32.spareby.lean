/-! the reference's spare -/
def spRow : Option (List Nat) → (Nat → Int32) → Prop
  | none, _ => True
  | some l, row => ∀ (i v : Nat), l[i]? = some v → row i = nI v
theorem r_spareBy {d s : Nat → Nat} {n : Nat} {ek ea en : Nat → Nat} {f_this_events : Int32} {f_this_notEvents : Int32} {f_this_deadNow : Int32} {f_this_allMissed : Int32} {f_this_allWanted : Int32} {f_this_allPrinted : Int32} {c_this_told : Nat → Int32} {c_this_head : Nat → Int32} {c_this_eventKind : Nat → Int32} {c_this_eventAt : Nat → Int32} {c_this_eventNozzle : Nat → Int32} {c_this_dots : Nat → Int32} {c_this_now : Nat → Int32} {c_this_hitMany : Nat → Int32} {c_this_hitPass : Nat → Int32} {c_this_hitNozzle : Nat → Int32} {c_this_hitPrints : Nat → Int32} {c_this_canMany : Nat → Int32} {c_this_printedBy : Nat → Int32} {c_this_missing : Nat → Int32} {c_this_prints : Nat → Int32} {c_this_gutter : Nat → Int32} {c_this_planRow : Nat → Int32} {post : Int32 → (Int32 × Int32 × Int32 × Int32 × Int32 × (Nat → Int32) × (Nat → Int32) × (Nat → Int32) × (Nat → Int32) × (Nat → Int32) × (Nat → Int32) × (Nat → Int32) × (Nat → Int32) × (Nat → Int32) × (Nat → Int32) × (Nat → Int32) × (Nat → Int32)) → Prop} (I : RefI d s n ek ea en c_this_told c_this_head f_this_events c_this_eventKind c_this_eventAt c_this_eventNozzle) (h : ∀ u, spRow (spR s d n ek ea en) u.2.2.2.2.2.2.2.2.2.2.2.2.2.2.2.2 → post (spNum (spR s d n ek ea en)) u) : wp_X4_spareBy f_this_events f_this_notEvents f_this_deadNow f_this_allMissed f_this_allWanted f_this_allPrinted c_this_told c_this_head c_this_eventKind c_this_eventAt c_this_eventNozzle c_this_dots c_this_now c_this_hitMany c_this_hitPass c_this_hitNozzle c_this_hitPrints c_this_canMany c_this_printedBy c_this_missing c_this_prints c_this_gutter c_this_planRow post := by
  obtain ⟨i1, i2, i3, i4⟩ := I
  subst i3
  have hn := i4.1
  unfold wp_X4_spareBy
  refine r_asTold i1 i2 (fun dots now hd hnow => ?_)
  dsimp only
  refine r_isSpared (ne := 0) hnow hd i4 rfl (by decide) rfl (fun u => ?_)
  rw [b01_0]
  unfold spR at h
  cases hs0 : safe s d n ek ea en 0 with
  | true =>
    rw [hs0] at h
    exact no1 (by decide) (h _ (fun i v q => by simp at q))
  | false =>
    rw [hs0] at h
    rw [if_neg (by decide)] at h
    refine yes1 rfl ?_
    have inn : ∀ (a : Nat), a < n → ∀ (Ke : Int32 → Int32 → Int32 → Int32 → (Nat → Int32) → (Nat → Int32) → (Nat → Int32) → (Nat → Int32) → (Nat → Int32) → (Nat → Int32) → (Nat → Int32) → (Nat → Int32) → (Nat → Int32) → (Nat → Int32) → Prop) (m r k : Nat) (e1 e2 e3 e4 : Int32) (f1 f2 f3 f4 f5 f6 f7 f8 f9 f10 : Nat → Int32), k + r = n → r < m → (match fnd (sp2 s d n ek ea en a) r k with | some b => ∀ u, u.2.2.2.2.2.2.2.2.2.2.2.2.2.2.2.2 0 = nI a → u.2.2.2.2.2.2.2.2.2.2.2.2.2.2.2.2 1 = nI b → post 2 u | none => ∀ e1 e2 e3 e4 f1 f2 f3 f4 f5 f6 f7 f8 f9 f10, Ke e1 e2 e3 e4 f1 f2 f3 f4 f5 f6 f7 f8 f9 f10) → wq_X4_spareBy_63 (nI n) c_this_told c_this_head c_this_eventKind c_this_eventAt c_this_eventNozzle (nI a) (-1) dots now post Ke m (nI k) e1 e2 e3 e4 f1 f2 f3 f4 f5 f6 f7 f8 f9 f10 := by
      intro a ha Ke m
      induction m with
      | zero => intro r k e1 e2 e3 e4 f1 f2 f3 f4 f5 f6 f7 f8 f9 f10 g1 g2; omega
      | succ m ih =>
        intro r k e1 e2 e3 e4 f1 f2 f3 f4 f5 f6 f7 f8 f9 f10 g1 g2 hR
        unfold wq_X4_spareBy_63
        rw [nI_leI (by omega) (by omega)]
        cases r with
        | zero => exact yes1 (by omega) (hR _ _ _ _ _ _ _ _ _ _ _ _ _ _)
        | succ r =>
          refine no1 (by omega) ?_
          unfold fnd at hR
          simp only [forall_eq]
          rw [q_1sh (by omega), q_1sh (by omega), fa_or]
          have p1 : 2 ^ a < 2 ^ 8 := Nat.pow_lt_pow_right (by decide) (by omega)
          have p2 : 2 ^ k < 2 ^ 8 := Nat.pow_lt_pow_right (by decide) (by omega)
          have p3 : 2 ^ a ||| 2 ^ k < 2 ^ 8 := Nat.or_lt_two_pow p1 p2
          refine r_isSpared (ne := 2 ^ a ||| 2 ^ k) hnow hd i4 rfl (by omega) rfl (fun u => ?_)
          rw [b01_0]
          cases hc : safe s d n ek ea en (2 ^ a ||| 2 ^ k) with
          | true =>
            rw [show sp2 s d n ek ea en a k = true from hc, if_pos rfl] at hR
            exact no1 (by decide) (hR _ rfl rfl)
          | false =>
            rw [show sp2 s d n ek ea en a k = false from hc, if_neg (by decide)] at hR
            rw [nI_1]
            exact yes1 rfl (ih r (k + 1) _ _ _ _ _ _ _ _ _ _ _ _ _ _ (by omega) (by omega) hR)
    have out : ∀ (Ke : Int32 → Int32 → Int32 → Int32 → (Nat → Int32) → (Nat → Int32) → (Nat → Int32) → (Nat → Int32) → (Nat → Int32) → (Nat → Int32) → (Nat → Int32) → (Nat → Int32) → (Nat → Int32) → (Nat → Int32) → Prop) (m r k : Nat) (e1 e2 e3 e4 : Int32) (f1 f2 f3 f4 f5 f6 f7 f8 f9 f10 : Nat → Int32), k + r = n → r < m → (match fnd2 (sp2 s d n ek ea en) r k with | some q => ∀ u, u.2.2.2.2.2.2.2.2.2.2.2.2.2.2.2.2 0 = nI q.1 → u.2.2.2.2.2.2.2.2.2.2.2.2.2.2.2.2 1 = nI q.2 → post 2 u | none => ∀ e1 e2 e3 e4 f1 f2 f3 f4 f5 f6 f7 f8 f9 f10, Ke e1 e2 e3 e4 f1 f2 f3 f4 f5 f6 f7 f8 f9 f10) → wq_X4_spareBy_51 (nI n) c_this_told c_this_head c_this_eventKind c_this_eventAt c_this_eventNozzle (-1) dots now post Ke m (nI k) e1 e2 e3 e4 f1 f2 f3 f4 f5 f6 f7 f8 f9 f10 := by
      intro Ke m
      induction m with
      | zero => intro r k e1 e2 e3 e4 f1 f2 f3 f4 f5 f6 f7 f8 f9 f10 g1 g2; omega
      | succ m ih =>
        intro r k e1 e2 e3 e4 f1 f2 f3 f4 f5 f6 f7 f8 f9 f10 g1 g2 hR
        unfold wq_X4_spareBy_51
        rw [nI_leI (by omega) (by omega)]
        cases r with
        | zero => exact yes1 (by omega) (hR _ _ _ _ _ _ _ _ _ _ _ _ _ _)
        | succ r =>
          refine no1 (by omega) ?_
          unfold fnd2 at hR
          rw [forall_eq, nI_1]
          refine ⟨r + 1, inn k (by omega) _ (r + 1) r (k + 1) _ _ _ _ _ _ _ _ _ _ _ _ _ _ (by omega) (by omega) ?_⟩
          cases hf : fnd (sp2 s d n ek ea en k) r (k + 1) with
          | some b => rw [hf] at hR; exact hR
          | none =>
            rw [hf] at hR
            intro e1 e2 e3 e4 f1 f2 f3 f4 f5 f6 f7 f8 f9 f10
            rw [forall_eq]
            exact ih r (k + 1) _ _ _ _ _ _ _ _ _ _ _ _ _ _ (by omega) (by omega) hR
    have one : ∀ (Ke : Int32 → Int32 → Int32 → Int32 → (Nat → Int32) → (Nat → Int32) → (Nat → Int32) → (Nat → Int32) → (Nat → Int32) → (Nat → Int32) → (Nat → Int32) → (Nat → Int32) → (Nat → Int32) → (Nat → Int32) → Prop) (m r k : Nat) (e1 e2 e3 e4 : Int32) (f1 f2 f3 f4 f5 f6 f7 f8 f9 f10 : Nat → Int32), k + r = n → r < m → (match fnd (sp1 s d n ek ea en) r k with | some a => ∀ u, u.2.2.2.2.2.2.2.2.2.2.2.2.2.2.2.2 0 = nI a → post 1 u | none => ∀ e1 e2 e3 e4 f1 f2 f3 f4 f5 f6 f7 f8 f9 f10, Ke e1 e2 e3 e4 f1 f2 f3 f4 f5 f6 f7 f8 f9 f10) → wq_X4_spareBy_16 (nI n) c_this_told c_this_head c_this_eventKind c_this_eventAt c_this_eventNozzle (-1) dots now post Ke m (nI k) e1 e2 e3 e4 f1 f2 f3 f4 f5 f6 f7 f8 f9 f10 := by
      intro Ke m
      induction m with
      | zero => intro r k e1 e2 e3 e4 f1 f2 f3 f4 f5 f6 f7 f8 f9 f10 g1 g2; omega
      | succ m ih =>
        intro r k e1 e2 e3 e4 f1 f2 f3 f4 f5 f6 f7 f8 f9 f10 g1 g2 hR
        unfold wq_X4_spareBy_16
        rw [nI_leI (by omega) (by omega)]
        cases r with
        | zero => exact yes1 (by omega) (hR _ _ _ _ _ _ _ _ _ _ _ _ _ _)
        | succ r =>
          refine no1 (by omega) ?_
          unfold fnd at hR
          simp only [forall_eq]
          rw [q_1sh (by omega)]
          have p2 : 2 ^ k < 2 ^ 8 := Nat.pow_lt_pow_right (by decide) (by omega)
          refine r_isSpared (ne := 2 ^ k) hnow hd i4 rfl (by omega) rfl (fun u => ?_)
          rw [b01_0]
          cases hc : safe s d n ek ea en (2 ^ k) with
          | true =>
            rw [show sp1 s d n ek ea en k = true from hc, if_pos rfl] at hR
            exact no1 (by decide) (hR _ rfl)
          | false =>
            rw [show sp1 s d n ek ea en k = false from hc, if_neg (by decide)] at hR
            rw [nI_1]
            exact yes1 rfl (ih r (k + 1) _ _ _ _ _ _ _ _ _ _ _ _ _ _ (by omega) (by omega) hR)
    refine ⟨n + 1, one _ (n + 1) n 0 _ _ _ _ _ _ _ _ _ _ _ _ _ _ (by omega) (by omega) ?_⟩
    cases hf : fnd (sp1 s d n ek ea en) n 0 with
    | some a =>
      rw [hf] at h
      intro u hu
      refine h u (fun i v q => ?_)
      match i, q with
      | 0, q => simp at q; rw [← q]; exact hu
      | i + 1, q => simp at q
    | none =>
      rw [hf] at h
      intro e1 e2 e3 e4 f1 f2 f3 f4 f5 f6 f7 f8 f9 f10
      refine ⟨n + 1, out _ (n + 1) n 0 _ _ _ _ _ _ _ _ _ _ _ _ _ _ (by omega) (by omega) ?_⟩
      cases hg : fnd2 (sp2 s d n ek ea en) n 0 with
      | some q =>
        rw [hg] at h
        intro u hu1 hu2
        refine h u (fun i v q => ?_)
        match i, q with
        | 0, q => simp at q; rw [← q]; exact hu1
        | 1, q => simp at q; rw [← q]; exact hu2
        | i + 2, q => simp at q
      | none =>
        rw [hg] at h
        intro e1 e2 e3 e4 f1 f2 f3 f4 f5 f6 f7 f8 f9 f10
        exact h _ trivial
theorem q_nle {i : Nat} (h : i < 2 ^ 31) : (-1 : Int32) ≤ nI i := Int32.le_of_lt (m1_lt h)
theorem r_ofRow {R : Option (List Nat)} {x2 : Int32} {c_this_planRow : Nat → Int32} {post : Int32 → Unit → Prop} (hR : spRow R c_this_planRow) (hl : ∀ l, R = some l → l.length ≤ 2) (c : (-1 : Int32) ≤ x2 ∧ x2 ≤ 1) (h : post (if x2 = -1 then spNum R else spAt R x2.toNatClampNeg) ()) : wp_X4_ofRow (spNum R) x2 c_this_planRow post := by
  unfold wp_X4_ofRow
  by_cases c1 : x2 = -1
  · rw [if_pos c1] at h
    exact yes2 c1 h
  · rw [if_neg c1] at h
    refine no2 c1 ?_
    obtain ⟨i, hi, e⟩ := q_m11 c c1
    subst e
    rw [nI_clamp (by omega)] at h
    cases R with
    | none => exact yes1 (q_nle (by omega)) h
    | some l =>
      have h2 := hl l rfl
      show (nI l.length ≤ nI i → _) ∧ (¬ nI l.length ≤ nI i → _)
      rw [nI_leI (by omega) (by omega)]
      by_cases q : l.length ≤ i
      · refine yes1 q ?_
        have : spAt (some l) i = -1 := by show (match l[i]? with | some v => nI v | none => (-1 : Int32)) = -1; rw [List.getElem?_eq_none q]
        rw [this] at h; exact h
      · refine no1 q ⟨vp_in_nI hi (by omega), ?_⟩
        have e : l[i]? = some l[i] := List.getElem?_eq_getElem (by omega)
        have : spAt (some l) i = nI l[i] := by show (match l[i]? with | some v => nI v | none => (-1 : Int32)) = _; rw [e]
        rw [this] at h
        rw [forall_eq, nI_clamp (by omega), hR i _ e]
        exact h
theorem spR_len (s d : Nat → Nat) (n : Nat) (ek ea en : Nat → Nat) : ∀ l, spR s d n ek ea en = some l → l.length ≤ 2 := by
  intro l hl
  rcases spR_form s d n ek ea en with e | e | ⟨a, ha, e⟩ | ⟨a, b, hab, hb, e⟩
  · rw [e] at hl; cases hl
  · rw [e] at hl; cases hl; decide
  · rw [e] at hl; cases hl; exact (by decide : 1 ≤ 2)
  · rw [e] at hl; cases hl; exact Nat.le_refl 2
theorem r_spare {d s : Nat → Nat} {n : Nat} {ek ea en : Nat → Nat} {x1 : Int32} {f_this_events : Int32} {f_this_notEvents : Int32} {f_this_deadNow : Int32} {f_this_allMissed : Int32} {f_this_allWanted : Int32} {f_this_allPrinted : Int32} {c_this_told : Nat → Int32} {c_this_head : Nat → Int32} {c_this_eventKind : Nat → Int32} {c_this_eventAt : Nat → Int32} {c_this_eventNozzle : Nat → Int32} {c_this_dots : Nat → Int32} {c_this_now : Nat → Int32} {c_this_hitMany : Nat → Int32} {c_this_hitPass : Nat → Int32} {c_this_hitNozzle : Nat → Int32} {c_this_hitPrints : Nat → Int32} {c_this_canMany : Nat → Int32} {c_this_printedBy : Nat → Int32} {c_this_missing : Nat → Int32} {c_this_prints : Nat → Int32} {c_this_gutter : Nat → Int32} {c_this_planRow : Nat → Int32} {post : Int32 → (Int32 × Int32 × Int32 × Int32 × Int32 × (Nat → Int32) × (Nat → Int32) × (Nat → Int32) × (Nat → Int32) × (Nat → Int32) × (Nat → Int32) × (Nat → Int32) × (Nat → Int32) × (Nat → Int32) × (Nat → Int32) × (Nat → Int32) × (Nat → Int32)) → Prop} (I : RefI d s n ek ea en c_this_told c_this_head f_this_events c_this_eventKind c_this_eventAt c_this_eventNozzle) (h : ∀ u, post (aSpare (spR s d n ek ea en) x1) u) : wp_X4_spare x1 f_this_events f_this_notEvents f_this_deadNow f_this_allMissed f_this_allWanted f_this_allPrinted c_this_told c_this_head c_this_eventKind c_this_eventAt c_this_eventNozzle c_this_dots c_this_now c_this_hitMany c_this_hitPass c_this_hitNozzle c_this_hitPrints c_this_canMany c_this_printedBy c_this_missing c_this_prints c_this_gutter c_this_planRow post := by
  unfold wp_X4_spare
  unfold aSpare at h
  by_cases c : (-1 : Int32) ≤ x1 ∧ x1 ≤ 1
  · refine r_inT c (no1 one0 (r_spareBy I (fun u hu => ?_)))
    rw [if_pos c] at h
    exact r_ofRow hu (spR_len s d n ek ea en) c (h _)
  · rw [if_neg c] at h
    exact r_inF c (yes1 rfl (h _))
