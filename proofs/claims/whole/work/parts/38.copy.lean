/-! copy, write, read -/
abbrev prt (sz : Nat) (x n : Int32) : Prop := (0 : Int32) ≤ x ∧ (0 : Int32) ≤ n ∧ x.toNatClampNeg + n.toNatClampNeg ≤ sz
theorem s_hasPart {sz : Nat} {x n : Int32} (hs : sz ≤ 60) {post : Int32 → Unit → Prop} (h : post (b01 (decide (prt sz x n))) ()) : wp_X2_hasPart x n (nI sz) post := by
  unfold wp_X2_hasPart
  by_cases c1 : (0 : Int32) ≤ x
  · refine no1 (Int32.not_lt.mpr c1) ?_
    by_cases c2 : (0 : Int32) ≤ n
    · refine no1 (Int32.not_lt.mpr c2) ?_
      obtain ⟨a, ha, e⟩ := nI_of (Int32.not_lt.mpr c1)
      subst e
      obtain ⟨b, hb, e⟩ := nI_of (Int32.not_lt.mpr c2)
      subst e
      have e : decide (prt sz (nI a) (nI b)) = decide (a + b ≤ sz) := by
        simp only [decide_eq_decide]
        unfold prt
        rw [nI_clamp ha, nI_clamp hb]
        exact ⟨fun q => q.2.2, fun q => ⟨c1, c2, q⟩⟩
      rw [e] at h
      rw [nI_ltI (by omega) hb]
      by_cases c3 : sz < b
      · rw [decide_eq_false (by omega)] at h; exact yes1 c3 h
      · refine no1 c3 ?_
        rw [pk_sub (by omega), nI_ltI (by omega) ha]
        by_cases c4 : sz - b < a
        · rw [decide_eq_false (by omega)] at h; exact yes1 c4 h
        · rw [decide_eq_true (by omega)] at h; exact no1 c4 h
    · rw [decide_eq_false (fun q => c2 q.2.1)] at h
      exact yes1 (Int32.not_le.mp c2) h
  · rw [decide_eq_false (fun q => c1 q.1)] at h
    exact yes1 (Int32.not_le.mp c1) h
def opCopy (σ : Sh) (x1 x2 x3 x4 x5 : Int32) : Int32 × Sh := if ((0 : Int32) ≤ x1 ∧ x1 ≤ 3) ∧ ((0 : Int32) ≤ x3 ∧ x3 ≤ 3) then (if σ.1 x1.toNatClampNeg = true ∧ σ.1 x3.toNatClampNeg = true then (if σ.2.1 x1.toNatClampNeg = σ.2.1 x3.toNatClampNeg then (if prt (σ.2.2.1 x1.toNatClampNeg) x2 x5 ∧ prt (σ.2.2.1 x3.toNatClampNeg) x4 x5 then (1, shIt σ x3.toNatClampNeg (va_cpy (σ.2.2.2.1 x1.toNatClampNeg) (σ.2.2.2.1 x3.toNatClampNeg) x2.toNatClampNeg x4.toNatClampNeg x5.toNatClampNeg)) else fnd5 σ 2) else fnd5 σ 4) else fnd5 σ 1) else (-2, σ)
theorem cpy_val (f g : Nat → Int32) (i j n k : Nat) : va_cpy f g i j n k = if j ≤ k ∧ k < j + n then f (i + (k - j)) else g k := rfl
theorem s_copy {σ : Sh} {x1 : Int32} {x2 : Int32} {x3 : Int32} {x4 : Int32} {x5 : Int32} {f_this_latestFinding : Int32} {g_form : Nat → Int32} {g_size : Nat → Int32} {g_lost : Nat → Int32} {g_items : Nat → Nat → Int32} {post : Int32 → (Int32 × (Nat → Nat → Int32)) → Prop} (C : ClsSh σ g_form g_size g_lost g_items f_this_latestFinding) (h : ∀ fi gi, ClsSh (opCopy σ x1 x2 x3 x4 x5).2 g_form g_size g_lost gi fi → post (opCopy σ x1 x2 x3 x4 x5).1 (fi, gi)) : wp_X3_copy x1 x2 x3 x4 x5 f_this_latestFinding g_form g_size g_lost g_items post := by
  obtain ⟨f0, c0⟩ := id C
  unfold wp_X3_copy
  unfold opCopy at h
  by_cases c1 : ((0 : Int32) ≤ x1 ∧ x1 ≤ 3)
  · refine s_shT c1 (no1 one0 ?_)
    by_cases c2 : ((0 : Int32) ≤ x3 ∧ x3 ≤ 3)
    · refine s_shT c2 (no2 one0 ?_)
      simp only [if_pos (And.intro c1 c2)] at h
      obtain ⟨s, hs, e⟩ := (q_rng (n := 3) (by decide)).mp c1
      subst e
      obtain ⟨t, ht, e⟩ := (q_rng (n := 3) (by decide)).mp c2
      subst e
      rw [nI_clamp (n := s) (by omega), nI_clamp (n := t) (by omega)] at h
      obtain ⟨b1, b2, b3, b4, b5, b6⟩ := c0 s (by omega)
      obtain ⟨d1, d2, d3, d4, d5, d6⟩ := c0 t (by omega)
      refine ⟨vp_in_nI (by omega) (by omega), vp_in_nI (by omega) (by omega), ?_⟩
      rw [nI_clamp (n := s) (by omega), nI_clamp (n := t) (by omega), b3, d3, b01n, b01n, b1, d1, nI_eq (by omega) (by omega), b2, d2]
      by_cases a1 : σ.1 s = true
      · refine yes2 a1 ?_
        by_cases a2 : σ.1 t = true
        · refine yes1 a2 ?_
          simp only [if_pos (And.intro a1 a2)] at h
          by_cases a3 : σ.2.1 s = σ.2.1 t
          · refine yes1 a3 (s_hasPart b6 ?_)
            simp only [if_pos a3] at h
            by_cases p1 : prt (σ.2.2.1 s) x2 x5
            · rw [decide_eq_true p1]
              refine no1 one0 (s_hasPart d6 ?_)
              by_cases p2 : prt (σ.2.2.1 t) x4 x5
              · rw [decide_eq_true p2]
                simp only [if_pos (And.intro p1 p2)] at h
                refine no2 one0 ⟨Int32.not_lt.mpr p1.1, Int32.not_lt.mpr p2.1, Int32.not_lt.mpr p1.2.1, Nat.le_trans p1.2.2 b6, Nat.le_trans p2.2.2 d6, h _ _ (cls_it C (fun k hk => ?_))⟩
                have q1 := p1.2.2
                rw [cpy_val, cpy_val]
                by_cases z : x4.toNatClampNeg ≤ k ∧ k < x4.toNatClampNeg + x5.toNatClampNeg
                · rw [if_pos z, if_pos z]; exact b4 _ (by omega)
                · rw [if_neg z, if_neg z]; exact d4 k hk
              · rw [decide_eq_false p2]
                simp only [if_neg (fun q : _ ∧ _ => p2 q.2)] at h
                exact yes2 rfl (h _ _ ⟨rfl, c0⟩)
            · rw [decide_eq_false p1]
              simp only [if_neg (fun q : _ ∧ _ => p1 q.1)] at h
              exact yes1 rfl (h _ _ ⟨rfl, c0⟩)
          · simp only [if_neg a3] at h
            exact no1 a3 (h _ _ ⟨rfl, c0⟩)
        · simp only [if_neg (fun q : _ ∧ _ => a2 q.2)] at h
          exact no1 a2 (h _ _ ⟨rfl, c0⟩)
      · simp only [if_neg (fun q : _ ∧ _ => a1 q.1)] at h
        exact no2 a1 (h _ _ ⟨rfl, c0⟩)
    · simp only [if_neg (fun q : _ ∧ _ => c2 q.2)] at h
      exact s_shF c2 (yes2 rfl (h _ _ C))
  · simp only [if_neg (fun q : _ ∧ _ => c1 q.1)] at h
    exact s_shF c1 (yes1 rfl (h _ _ C))
theorem q_lgt {a b : Nat} (ha : a < 2 ^ 63) (hb : b < 2 ^ 63) : ((0 : Int32) < lg_cmp (lN a) (lN b)) ↔ b < a := by
  unfold lg_cmp
  have hg : (lN a > lN b) ↔ b < a := by
    show lN b < lN a ↔ _
    rw [Int64.lt_iff_toInt_lt, pk_lT ha, pk_lT hb]; omega
  by_cases c : b < a
  · rw [if_pos (hg.mpr c)]; exact ⟨fun _ => c, fun _ => by decide⟩
  · rw [if_neg (fun q => c (hg.mp q))]
    refine ⟨fun q => ?_, fun q => absurd q c⟩
    by_cases e : lN a = lN b
    · rw [if_pos e] at q; exact absurd q (by decide)
    · rw [if_neg e] at q; exact absurd q (by decide)
theorem q_lle {a b : Nat} (ha : a < 2 ^ 63) (hb : b < 2 ^ 63) : (lg_cmp (lN a) (lN b) ≤ (0 : Int32)) ↔ a ≤ b := by
  rw [← Int32.not_lt, q_lgt ha hb]; omega
theorem r_copy {σ : Sh} {x1 : Int32} {x2 : Int32} {x3 : Int32} {x4 : Int32} {x5 : Int32} {f_this_finding : Int32} {c_this_isThere : Nat → Int32} {c_this_forms : Nat → Int32} {c_this_sizes : Nat → Int32} {c_this_items : Nat → Int32} {c_this_moved : Nat → Int32} {post : Int32 → (Int32 × (Nat → Int32) × (Nat → Int32)) → Prop} (C : RefSh σ c_this_isThere c_this_forms c_this_sizes c_this_items f_this_finding) (h : ∀ fi ci mv, RefSh (opCopy σ x1 x2 x3 x4 x5).2 c_this_isThere c_this_forms c_this_sizes ci fi → post (opCopy σ x1 x2 x3 x4 x5).1 (fi, ci, mv)) : wp_X4_copy x1 x2 x3 x4 x5 f_this_finding c_this_isThere c_this_forms c_this_sizes c_this_items c_this_moved post := by
  obtain ⟨f0, c0⟩ := id C
  unfold wp_X4_copy
  unfold opCopy at h
  by_cases c1 : ((0 : Int32) ≤ x1 ∧ x1 ≤ 3)
  · refine r_shT c1 (no1 one0 ?_)
    by_cases c2 : ((0 : Int32) ≤ x3 ∧ x3 ≤ 3)
    · refine r_shT c2 (no2 one0 ?_)
      simp only [if_pos (And.intro c1 c2)] at h
      obtain ⟨s, hs, e⟩ := (q_rng (n := 3) (by decide)).mp c1
      subst e
      obtain ⟨t, ht, e⟩ := (q_rng (n := 3) (by decide)).mp c2
      subst e
      rw [nI_clamp (n := s) (by omega), nI_clamp (n := t) (by omega)] at h
      obtain ⟨b1, b2, b3, b4, b5, b6⟩ := c0 s (by omega)
      obtain ⟨d1, d2, d3, d4, d5, d6⟩ := c0 t (by omega)
      have vs := vp_in_nI (n := s) (N := 4) (by omega) (by omega)
      have vt := vp_in_nI (n := t) (N := 4) (by omega) (by omega)
      refine ⟨vs, ?_⟩
      rw [nI_clamp (n := s) (by omega), nI_clamp (n := t) (by omega), b3, d3, b01_0, b01_0, b1, d1, b2, d2]
      by_cases a1 : σ.1 s = true
      · refine no1 (by rw [a1]; decide) ⟨vt, ?_⟩
        by_cases a2 : σ.1 t = true
        · refine no2 (by rw [a2]; decide) ⟨vs, ?_⟩
          simp only [if_pos (And.intro a1 a2)] at h
          rw [forall_eq, nI_eq (by omega) (by omega)]
          refine ⟨vt, ?_⟩
          by_cases a3 : σ.2.1 s = σ.2.1 t
          · refine yes1 a3 ?_
            simp only [if_pos a3] at h
            by_cases p1 : (0 : Int32) ≤ x2
            · refine no1 (Int32.not_lt.mpr p1) ?_
              by_cases p2 : (0 : Int32) ≤ x4
              · refine no1 (Int32.not_lt.mpr p2) ?_
                by_cases p3 : (0 : Int32) ≤ x5
                · refine no1 (Int32.not_lt.mpr p3) ?_
                  obtain ⟨i, hi, e⟩ := nI_of (Int32.not_lt.mpr p1)
                  subst e
                  obtain ⟨j, hj, e⟩ := nI_of (Int32.not_lt.mpr p2)
                  subst e
                  obtain ⟨n, hn, e⟩ := nI_of (Int32.not_lt.mpr p3)
                  subst e
                  rw [forall_eq, forall_eq, nI_l hi, nI_l hn, lN_add, nI_l (n := σ.2.2.1 s) (by omega), q_lgt (by omega) (by omega)]
                  refine ⟨vs, ?_⟩
                  by_cases p4 : i + n ≤ σ.2.2.1 s
                  · refine no1 (by omega) ?_
                    rw [forall_eq, forall_eq, nI_l hj, lN_add, nI_l (n := σ.2.2.1 t) (by omega), q_lle (by omega) (by omega)]
                    refine ⟨vt, ?_⟩
                    by_cases p5 : j + n ≤ σ.2.2.1 t
                    · refine yes1 p5 ?_
                      have pp : prt (σ.2.2.1 s) (nI i) (nI n) ∧ prt (σ.2.2.1 t) (nI j) (nI n) := by
                        unfold prt
                        rw [nI_clamp hi, nI_clamp hj, nI_clamp hn]
                        exact ⟨⟨p1, p3, p4⟩, p2, p3, p5⟩
                      simp only [if_pos pp] at h
                      rw [nI_clamp hi, nI_clamp hj, nI_clamp hn] at h
                      have l2 : ∀ (mv : Nat → Int32), (∀ k, k < n → mv k = c_this_items (60 * s + i + k)) → ∀ (m k : Nat) (ci : Nat → Int32), k ≤ n → n - k < m → (∀ z, z < 240 → ci z = if 60 * t + j ≤ z ∧ z < 60 * t + j + k then c_this_items (60 * s + i + (z - (60 * t + j))) else c_this_items z) → wq_X4_copy_157 c_this_isThere c_this_forms c_this_sizes (nI t) (nI j) (nI n) f_this_finding mv post (fun d68 => post 1 (f_this_finding, d68, mv)) m (nI k) ci := by
                        intro mv hmv m
                        induction m with
                        | zero => intro k ci g1 g2; omega
                        | succ m ih =>
                          intro k ci g1 g2 hI
                          unfold wq_X4_copy_157
                          rw [nI_leI (by omega) (by omega)]
                          refine ⟨fun q => ?_, fun q => ?_⟩
                          · have e : k = n := by omega
                            subst e
                            refine h _ _ _ (ref_it C (by omega) (fun z hz => ?_) (fun z hz ho => ?_))
                            · rw [hI _ (by omega), cpy_val]
                              by_cases y : j ≤ z ∧ z < j + k
                              · rw [if_pos (by omega), if_pos y, show 60 * s + i + (60 * t + z - (60 * t + j)) = 60 * s + (i + (z - j)) by omega]
                                exact b4 _ (by omega)
                              · rw [if_neg (by omega), if_neg y]; exact d4 z hz
                            · rw [hI z hz, if_neg (by omega)]
                          · simp only [forall_eq]
                            rw [show (60 : Int32) = nI 60 from rfl, pk_mul, nI_add, nI_add, nI_clamp (n := k) (by omega), nI_clamp (by omega), nI_1]
                            refine ⟨vp_in_nI (by omega) (by omega), vp_in_nI (by omega) (by omega), ?_⟩
                            refine ih (k + 1) _ (by omega) (by omega) (fun z hz => ?_)
                            by_cases e : z = 60 * t + j + k
                            · rw [e, pk_us, if_pos (by omega), hmv k (by omega)]; congr 1; omega
                            · rw [pk_un e, hI z hz]
                              by_cases y : 60 * t + j ≤ z ∧ z < 60 * t + j + k
                              · rw [if_pos y, if_pos (by omega)]
                              · rw [if_neg y, if_neg (by omega)]
                      have l1 : ∀ (m k : Nat) (mv : Nat → Int32), k ≤ n → n - k < m → (∀ z, z < k → mv z = c_this_items (60 * s + i + z)) → wq_X4_copy_120 c_this_isThere c_this_forms c_this_sizes (nI s) (nI i) (nI t) (nI j) (nI n) f_this_finding c_this_items post (fun d67 => ∃ n69 : Nat, wq_X4_copy_157 c_this_isThere c_this_forms c_this_sizes (nI t) (nI j) (nI n) f_this_finding d67 post (fun d68 => post 1 (f_this_finding, d68, d67)) n69 0 c_this_items) m (nI k) mv := by
                        intro m
                        induction m with
                        | zero => intro k mv g1 g2; omega
                        | succ m ih =>
                          intro k mv g1 g2 hI
                          unfold wq_X4_copy_120
                          rw [nI_leI (by omega) (by omega)]
                          refine ⟨fun q => ?_, fun q => ?_⟩
                          · have e : k = n := by omega
                            subst e
                            exact ⟨k + 1, l2 mv hI (k + 1) 0 _ (by omega) (by omega) (fun z hz => by rw [if_neg (by omega)])⟩
                          · simp only [forall_eq]
                            rw [show (60 : Int32) = nI 60 from rfl, pk_mul, nI_add, nI_add, nI_clamp (n := k) (by omega), nI_clamp (by omega), nI_1]
                            refine ⟨vp_in_nI (by omega) (by omega), vp_in_nI (by omega) (by omega), ?_⟩
                            refine ih (k + 1) _ (by omega) (by omega) (fun z hz => ?_)
                            by_cases e : z = k
                            · subst e; rw [pk_us]
                            · rw [pk_un e]; exact hI z (by omega)
                      exact ⟨n + 1, l1 (n + 1) 0 _ (by omega) (by omega) (fun z hz => by omega)⟩
                    · have np : ¬ (prt (σ.2.2.1 s) (nI i) (nI n) ∧ prt (σ.2.2.1 t) (nI j) (nI n)) := fun q => p5 (by
                        have := q.2.2.2
                        rw [nI_clamp hj, nI_clamp hn] at this; exact this)
                      simp only [if_neg np] at h
                      exact no1 p5 (h _ _ _ ⟨rfl, c0⟩)
                  · have np : ¬ (prt (σ.2.2.1 s) (nI i) (nI n) ∧ prt (σ.2.2.1 t) (nI j) (nI n)) := fun q => p4 (by
                      have := q.1.2.2
                      rw [nI_clamp hi, nI_clamp hn] at this; exact this)
                    simp only [if_neg np] at h
                    exact yes1 (by omega) (h _ _ _ ⟨rfl, c0⟩)
                · simp only [if_neg (fun q : prt _ x2 x5 ∧ prt _ x4 x5 => p3 q.1.2.1)] at h
                  exact yes1 (Int32.not_le.mp p3) (h _ _ _ ⟨rfl, c0⟩)
              · simp only [if_neg (fun q : prt _ x2 x5 ∧ prt _ x4 x5 => p2 q.2.1)] at h
                exact yes1 (Int32.not_le.mp p2) (h _ _ _ ⟨rfl, c0⟩)
            · simp only [if_neg (fun q : prt _ x2 x5 ∧ prt _ x4 x5 => p1 q.1.1)] at h
              exact yes1 (Int32.not_le.mp p1) (h _ _ _ ⟨rfl, c0⟩)
          · simp only [if_neg a3] at h
            exact no1 a3 (h _ _ _ ⟨rfl, c0⟩)
        · simp only [if_neg (fun q : _ ∧ _ => a2 q.2)] at h
          exact yes2 (by cases q : σ.1 t with | false => rfl | true => exact absurd q a2) (h _ _ _ ⟨rfl, c0⟩)
      · simp only [if_neg (fun q : _ ∧ _ => a1 q.1)] at h
        exact yes1 (by cases q : σ.1 s with | false => rfl | true => exact absurd q a1) (h _ _ _ ⟨rfl, c0⟩)
    · simp only [if_neg (fun q : _ ∧ _ => c2 q.2)] at h
      exact r_shF c2 (yes2 rfl (h _ _ _ C))
  · simp only [if_neg (fun q : _ ∧ _ => c1 q.1)] at h
    exact r_shF c1 (yes1 rfl (h _ _ _ C))
