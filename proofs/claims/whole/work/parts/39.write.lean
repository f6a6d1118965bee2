/-! write, read, count -/
def mn16 (v : Nat) : Nat := if 16 < v then 16 else v
def wrR (f : Nat) (mi : Nat → Nat) (row : Nat → Int32) (k : Nat) : Nat → Int32 := fun z => if z < k then nrw f (nI (mi z)) else row z
def opWrite (σ : Sh) (mi : Nat → Nat) (x1 : Int32) : Int32 × Sh := if ((0 : Int32) ≤ x1 ∧ x1 ≤ 3) then (if σ.1 x1.toNatClampNeg = true then (nI (mn16 (σ.2.2.1 x1.toNatClampNeg)), shIt σ x1.toNatClampNeg (wrR (σ.2.1 x1.toNatClampNeg) mi (σ.2.2.2.1 x1.toNatClampNeg) (mn16 (σ.2.2.1 x1.toNatClampNeg)))) else fnd5 σ 1) else (-2, σ)
def miN (s : Nat → Nat) (al : Nat → Nat → Bool) (d : Nat → Nat) (y : Nat) : Nat := (fin s al (d y) y).2.2.1
theorem wr_up (f : Nat) (mi : Nat → Nat) (row : Nat → Int32) (k : Nat) : upd (wrR f mi row k) k (nrw f (nI (mi k))) = wrR f mi row (k + 1) := by
  funext z
  by_cases e : z = k
  · subst e; rw [pk_us]; unfold wrR; rw [if_pos (by omega)]
  · rw [pk_un e]; unfold wrR
    by_cases c : z < k
    · rw [if_pos c, if_pos (by omega)]
    · rw [if_neg c, if_neg (by omega)]
theorem wr_0 (f : Nat) (mi : Nat → Nat) (row : Nat → Int32) : wrR f mi row 0 = row := by
  funext z; unfold wrR; rw [if_neg (by omega)]
theorem q_mn16 {v : Nat} (hv : v ≤ 60) : (if (16 : Int32) < nI v then (16 : Int32) else nI v) = nI (mn16 v) := by
  unfold mn16
  have q : ((16 : Int32) < nI v) ↔ 16 < v := nI_ltI (a := 16) (by omega) (by omega)
  by_cases c : 16 < v
  · rw [if_pos c, if_pos (q.mpr c)]; rfl
  · rw [if_neg c, if_neg (fun z => c (q.mp z))]
theorem mn16_le (v : Nat) : mn16 v ≤ 16 ∧ mn16 v ≤ v := by
  unfold mn16
  by_cases c : 16 < v
  · rw [if_pos c]; omega
  · rw [if_neg c]; omega
theorem s_write {σ : Sh} {mi : Nat → Nat} {x1 : Int32} {f_this_latestFinding : Int32} {c_this_told_missedDots : Nat → Int32} {g_form : Nat → Int32} {g_size : Nat → Int32} {g_lost : Nat → Int32} {g_items : Nat → Nat → Int32} {post : Int32 → (Int32 × (Nat → Nat → Int32)) → Prop} (C : ClsSh σ g_form g_size g_lost g_items f_this_latestFinding) (hm : ∀ y, y < 16 → c_this_told_missedDots y = nI (mi y)) (h : ∀ fi gi, ClsSh (opWrite σ mi x1).2 g_form g_size g_lost gi fi → post (opWrite σ mi x1).1 (fi, gi)) : wp_X3_write x1 f_this_latestFinding c_this_told_missedDots g_form g_size g_lost g_items post := by
  obtain ⟨f0, c0⟩ := id C
  unfold wp_X3_write
  unfold opWrite at h
  by_cases c1 : ((0 : Int32) ≤ x1 ∧ x1 ≤ 3)
  · refine s_shT c1 (no2 one0 ?_)
    simp only [if_pos c1] at h
    obtain ⟨j, hj, e⟩ := (q_rng (n := 3) (by decide)).mp c1
    subst e
    rw [nI_clamp (by omega)] at h
    obtain ⟨b1, b2, b3, b4, b5, b6⟩ := c0 j (by omega)
    refine ⟨vp_in_nI (by omega) (by omega), ?_⟩
    rw [nI_clamp (by omega), b3, b01n]
    by_cases c : σ.1 j = true
    · simp only [if_pos c] at h
      refine yes1 c ?_
      obtain ⟨m1, m2⟩ := mn16_le (σ.2.2.1 j)
      rw [forall_eq, b2, q_mn16 b6]
      have key : ∀ (m k : Nat) (gi : Nat → Nat → Int32), k ≤ mn16 (σ.2.2.1 j) → mn16 (σ.2.2.1 j) - k < m → ClsSh (shIt σ j (wrR (σ.2.1 j) mi (σ.2.2.2.1 j) k)) g_form g_size g_lost gi f_this_latestFinding → wq_X3_write_43 j c_this_told_missedDots g_form g_size g_lost (nI (mn16 (σ.2.2.1 j))) f_this_latestFinding post (fun d16 => post (nI (mn16 (σ.2.2.1 j))) (f_this_latestFinding, d16)) m (nI k) gi := by
        intro m
        induction m with
        | zero => intro k gi g1 g2; omega
        | succ m ih =>
          intro k gi g1 g2 hI
          unfold wq_X3_write_43
          rw [nI_leI (by omega) (by omega)]
          refine ⟨fun q => ?_, fun q => ?_⟩
          · have e : k = mn16 (σ.2.2.1 j) := by omega
            rw [e] at hI
            exact h _ _ hI
          · refine ⟨vp_in_nI (by omega) (by omega), ?_⟩
            rw [forall_eq, nI_clamp (by omega), hm k (by omega), b1]
            refine s_fillS b5 (by omega) ?_
            rw [forall_eq, nI_1]
            refine ih (k + 1) _ (by omega) (by omega) ?_
            have := cls_it (j := j) (row := wrR (σ.2.1 j) mi (σ.2.2.2.1 j) (k + 1)) (row' := upd (gi j) k (nrw (σ.2.1 j) (nI (mi k)))) hI (fun z hz => by
              rw [← wr_up]
              by_cases e : z = k
              · subst e; rw [pk_us, pk_us]
              · rw [pk_un e, pk_un e]
                have := (hI.2 j (by omega)).2.2.2.1 z hz
                rw [this]
                show va_up σ.2.2.2.1 j _ j z = _
                rw [va_up_self])
            have e2 : shIt (shIt σ j (wrR (σ.2.1 j) mi (σ.2.2.2.1 j) k)) j (wrR (σ.2.1 j) mi (σ.2.2.2.1 j) (k + 1)) = shIt σ j (wrR (σ.2.1 j) mi (σ.2.2.2.1 j) (k + 1)) := by
              unfold shIt
              dsimp only
              congr 4
              funext i
              by_cases e : i = j
              · subst e; rw [va_up_self, va_up_self]
              · rw [va_up_ne _ _ e, va_up_ne _ _ e, va_up_ne _ _ e]
            rw [e2] at this
            exact this
      refine ⟨mn16 (σ.2.2.1 j) + 1, key _ 0 _ (by omega) (by omega) ?_⟩
      rw [wr_0]
      refine ⟨f0, fun i hi => ?_⟩
      obtain ⟨d1, d2, d3, d4, d5, d6⟩ := c0 i hi
      refine ⟨d1, d2, d3, fun k hk => ?_, d5, d6⟩
      show g_items i k = va_up σ.2.2.2.1 j _ i k
      by_cases e : i = j
      · subst e; rw [va_up_self]; exact d4 k hk
      · rw [va_up_ne _ _ e]; exact d4 k hk
    · simp only [if_neg c] at h
      exact no1 c (h _ _ ⟨rfl, c0⟩)
  · simp only [if_neg c1] at h
    exact s_shF c1 (yes2 rfl (h _ _ C))
theorem r_write {d s : Nat → Nat} {n : Nat} {ek ea en : Nat → Nat} {σ : Sh} {x1 : Int32} {f_this_events : Int32} {f_this_notEvents : Int32} {f_this_deadNow : Int32} {f_this_allMissed : Int32} {f_this_allWanted : Int32} {f_this_allPrinted : Int32} {f_this_finding : Int32} {c_this_told : Nat → Int32} {c_this_head : Nat → Int32} {c_this_eventKind : Nat → Int32} {c_this_eventAt : Nat → Int32} {c_this_eventNozzle : Nat → Int32} {c_this_dots : Nat → Int32} {c_this_now : Nat → Int32} {c_this_hitMany : Nat → Int32} {c_this_hitPass : Nat → Int32} {c_this_hitNozzle : Nat → Int32} {c_this_hitPrints : Nat → Int32} {c_this_canMany : Nat → Int32} {c_this_printedBy : Nat → Int32} {c_this_missing : Nat → Int32} {c_this_prints : Nat → Int32} {c_this_gutter : Nat → Int32} {c_this_isThere : Nat → Int32} {c_this_forms : Nat → Int32} {c_this_sizes : Nat → Int32} {c_this_items : Nat → Int32} {post : Int32 → (Int32 × Int32 × Int32 × Int32 × Int32 × Int32 × (Nat → Int32) × (Nat → Int32) × (Nat → Int32) × (Nat → Int32) × (Nat → Int32) × (Nat → Int32) × (Nat → Int32) × (Nat → Int32) × (Nat → Int32) × (Nat → Int32) × (Nat → Int32) × (Nat → Int32)) → Prop} (I : RefI d s n ek ea en c_this_told c_this_head f_this_events c_this_eventKind c_this_eventAt c_this_eventNozzle) (C : RefSh σ c_this_isThere c_this_forms c_this_sizes c_this_items f_this_finding) (h : ∀ e1 e2 e3 e4 e5 fi f1 f2 f3 f4 f5 f6 f7 f8 f9 f10 f11 ci, RefSh (opWrite σ (miN s (al0 n ek ea en) d) x1).2 c_this_isThere c_this_forms c_this_sizes ci fi → post (opWrite σ (miN s (al0 n ek ea en) d) x1).1 (e1, e2, e3, e4, e5, fi, f1, f2, f3, f4, f5, f6, f7, f8, f9, f10, f11, ci)) : wp_X4_write x1 f_this_events f_this_notEvents f_this_deadNow f_this_allMissed f_this_allWanted f_this_allPrinted f_this_finding c_this_told c_this_head c_this_eventKind c_this_eventAt c_this_eventNozzle c_this_dots c_this_now c_this_hitMany c_this_hitPass c_this_hitNozzle c_this_hitPrints c_this_canMany c_this_printedBy c_this_missing c_this_prints c_this_gutter c_this_isThere c_this_forms c_this_sizes c_this_items post := by
  obtain ⟨f0, c0⟩ := id C
  unfold wp_X4_write
  unfold opWrite at h
  by_cases c1 : ((0 : Int32) ≤ x1 ∧ x1 ≤ 3)
  · refine r_shT c1 (no2 one0 ?_)
    simp only [if_pos c1] at h
    obtain ⟨j, hj, e⟩ := (q_rng (n := 3) (by decide)).mp c1
    subst e
    rw [nI_clamp (by omega)] at h
    obtain ⟨b1, b2, b3, b4, b5, b6⟩ := c0 j (by omega)
    refine ⟨vp_in_nI (by omega) (by omega), ?_⟩
    rw [nI_clamp (by omega), b3, b01_0]
    by_cases c : σ.1 j = true
    · simp only [if_pos c] at h
      refine no2 (by rw [c]; decide) ?_
      obtain ⟨m1, m2⟩ := mn16_le (σ.2.2.1 j)
      refine r_runsTold I (fun aM aW aP dots now hm hP hN hR cM pB mi pt gt i1 i2 i3 i4 => ?_)
      dsimp only
      have hmi : ∀ y, y < 16 → mi y = nI (miN s (al0 n ek ea en) d y) := fun y hy => by
        have := i4.2.1.2.2.2.2.2.1 y hy
        rw [stk_at hy] at this
        exact this
      have key : ∀ (Ke : Int32 → (Nat → Int32) → Prop), (∀ ci, (∀ z, z < 240 → ci z = if 60 * j ≤ z ∧ z < 60 * j + 60 then wrR (σ.2.1 j) (miN s (al0 n ek ea en) d) (σ.2.2.2.1 j) (mn16 (σ.2.2.1 j)) (z - 60 * j) else c_this_items z) → Ke (nI (mn16 (σ.2.2.1 j))) ci) → ∀ (m k : Nat) (ci : Nat → Int32), k ≤ mn16 (σ.2.2.1 j) → mn16 (σ.2.2.1 j) - k < m → (∀ z, z < 240 → ci z = if 60 * j ≤ z ∧ z < 60 * j + 60 then wrR (σ.2.1 j) (miN s (al0 n ek ea en) d) (σ.2.2.2.1 j) k (z - 60 * j) else c_this_items z) → wq_X4_write_31 f_this_events c_this_told c_this_head c_this_eventKind c_this_eventAt c_this_eventNozzle c_this_isThere c_this_forms c_this_sizes (nI j) 0 (-1) aM aW aP f_this_finding dots now hm hP hN hR cM pB mi pt gt post Ke m (nI k) ci := by
        intro Ke hK m
        induction m with
        | zero => intro k ci g1 g2; omega
        | succ m ih =>
          intro k ci g1 g2 hI
          unfold wq_X4_write_31
          refine ⟨vp_in_nI (by omega) (by omega), ?_⟩
          rw [nI_clamp (by omega), b2, nI_leI (by omega) (by omega), show ((16 : Int32) ≤ nI k) ↔ 16 ≤ k from nI_leI (a := 16) (by omega) (by omega)]
          have stop : (σ.2.2.1 j ≤ k ∨ 16 ≤ k) → Ke (nI k) ci := by
            intro q
            have e : k = mn16 (σ.2.2.1 j) := by
              unfold mn16 at g1 ⊢
              by_cases z : 16 < σ.2.2.1 j
              · rw [if_pos z] at g1 ⊢; omega
              · rw [if_neg z] at g1 ⊢; omega
            rw [e]; rw [e] at hI; exact hK ci hI
          refine ⟨fun q => stop (Or.inl q), fun q => ⟨fun q2 => stop (Or.inr q2), fun q2 => ?_⟩⟩
          have hk : k < mn16 (σ.2.2.1 j) := by
            unfold mn16
            by_cases z : 16 < σ.2.2.1 j
            · rw [if_pos z]; omega
            · rw [if_neg z]; omega
          refine ⟨vp_in_nI (by omega) (by omega), ?_⟩
          rw [forall_eq, nI_clamp (by omega), hmi k (by omega)]
          refine r_keep (by omega) b5 b1 (by omega) ?_
          rw [forall_eq, nI_1]
          refine ih (k + 1) _ (by omega) (by omega) (fun z hz => ?_)
          by_cases e : z = 60 * j + k
          · rw [e, pk_us, if_pos (by omega), ← wr_up, show 60 * j + k - 60 * j = k by omega, pk_us]
          · rw [pk_un e, hI z hz]
            by_cases y : 60 * j ≤ z ∧ z < 60 * j + 60
            · rw [if_pos y, if_pos y, ← wr_up, pk_un (by omega)]
            · rw [if_neg y, if_neg y]
      refine ⟨mn16 (σ.2.2.1 j) + 1, key _ (fun ci hci => ?_) _ 0 _ (by omega) (by omega) (fun z hz => ?_)⟩
      · refine h _ _ _ _ _ _ _ _ _ _ _ _ _ _ _ _ _ _ (ref_it C (by omega) (fun z hz => ?_) (fun z hz ho => ?_))
        · rw [hci _ (by omega), if_pos (by omega), show 60 * j + z - 60 * j = z by omega]
        · rw [hci z hz, if_neg (by omega)]
      · rw [wr_0]
        by_cases y : 60 * j ≤ z ∧ z < 60 * j + 60
        · rw [if_pos y, ← b4 (z - 60 * j) (by omega), show 60 * j + (z - 60 * j) = z by omega]
        · rw [if_neg y]
    · simp only [if_neg c] at h
      exact yes2 (by cases q : σ.1 j with | false => rfl | true => exact absurd q c) (h _ _ _ _ _ _ _ _ _ _ _ _ _ _ _ _ _ _ ⟨rfl, c0⟩)
  · simp only [if_neg c1] at h
    exact r_shF c1 (yes2 rfl (h _ _ _ _ _ _ _ _ _ _ _ _ _ _ _ _ _ _ C))
/-- read -/
def rdn (row : Nat → Int32) : Nat → Nat → Nat
  | 0, k => k
  | r + 1, k => if (0 : Int32) ≤ row k ∧ row k ≤ 255 then rdn row r (k + 1) else k
theorem rdn_s (row : Nat → Int32) (r k : Nat) : rdn row (r + 1) k = if (0 : Int32) ≤ row k ∧ row k ≤ 255 then rdn row r (k + 1) else k := rfl
def rdD (d : Nat → Nat) (row : Nat → Int32) (k : Nat) : Nat → Nat := fun y => if y < k then (row y).toNatClampNeg else d y
theorem rdn_le (row : Nat → Int32) : ∀ r k, k ≤ rdn row r k ∧ rdn row r k ≤ k + r ∧ ∀ z, k ≤ z → z < rdn row r k → ((0 : Int32) ≤ row z ∧ row z ≤ 255) := by
  intro r
  induction r with
  | zero => intro k; exact ⟨Nat.le_refl _, Nat.le_refl _, fun z h1 h2 => by have : z < k := h2; omega⟩
  | succ r ih =>
    intro k
    unfold rdn
    by_cases c : (0 : Int32) ≤ row k ∧ row k ≤ 255
    · rw [if_pos c]
      obtain ⟨h1, h2, h3⟩ := ih (k + 1)
      refine ⟨by omega, by omega, fun z g1 g2 => ?_⟩
      by_cases e : z = k
      · subst e; exact c
      · exact h3 z (by omega) g2
    · rw [if_neg c]
      exact ⟨Nat.le_refl _, by omega, fun z h1 h2 => by omega⟩
def opRead (σ : Sh) (d : Nat → Nat) (x1 : Int32) : Int32 × (Nat → Nat) × Sh := if ((0 : Int32) ≤ x1 ∧ x1 ≤ 3) then (if σ.1 x1.toNatClampNeg = true then (nI (rdn (σ.2.2.2.1 x1.toNatClampNeg) (mn16 (σ.2.2.1 x1.toNatClampNeg)) 0), rdD d (σ.2.2.2.1 x1.toNatClampNeg) (rdn (σ.2.2.2.1 x1.toNatClampNeg) (mn16 (σ.2.2.1 x1.toNatClampNeg)) 0), σ) else ((fnd5 σ 1).1, d, (fnd5 σ 1).2)) else (-2, d, σ)
theorem rd_pic {d : Nat → Nat} {row : Nat → Int32} {pic : Nat → Int32} {k : Nat} (hd : ∀ y, y < 16 → d y < 256) (hr : ∀ z, z < k → ((0 : Int32) ≤ row z ∧ row z ≤ 255)) (hp : ∀ y, y < 16 → pic y = if y < k then row y else nI (d y)) : PicOk (rdD d row k) pic := by
  intro y hy
  rw [hp y hy]
  unfold rdD
  by_cases c : y < k
  · rw [if_pos c, if_pos c]
    obtain ⟨v, hv, e⟩ := (q_rng (n := 255) (by decide)).mp (hr y c)
    rw [e, nI_clamp (by omega)]
    exact ⟨rfl, by omega⟩
  · rw [if_neg c, if_neg c]; exact ⟨rfl, hd y hy⟩
theorem s_read {d s : Nat → Nat} {n : Nat} {ek ea en : Nat → Nat} {σ : Sh} {gf : Nat → Int32} {x1 : Int32} {f_this_latestFinding : Int32} {f_this_told_strayed : Int32} {c_this_told_picture : Nat → Int32} {c_this_told_head : Nat → Int32} {c_this_told_living : Nat → Int32} {c_this_told_hitCount : Nat → Int32} {c_this_told_hitPlace : Nat → Int32} {c_this_told_printingHit : Nat → Int32} {c_this_told_missedDots : Nat → Int32} {c_this_told_firstPass : Nat → Int32} {c_this_told_lastPass : Nat → Int32} {c_this_told_dotsPrinted : Nat → Int32} {c_this_told_gutter : Nat → Int32} {c_this_told_canColumns : Nat → Int32} {c_this_told_canCount : Nat → Int32} {g_size : Nat → Int32} {g_lost : Nat → Int32} {g_items : Nat → Nat → Int32} {post : Int32 → (Int32 × Int32 × (Nat → Int32) × (Nat → Int32) × (Nat → Int32) × (Nat → Int32) × (Nat → Int32) × (Nat → Int32) × (Nat → Int32) × (Nat → Int32) × (Nat → Int32) × (Nat → Int32) × (Nat → Int32)) → Prop} (T : ClsT d s n ek ea en f_this_told_strayed c_this_told_picture c_this_told_head c_this_told_living c_this_told_hitCount c_this_told_hitPlace c_this_told_printingHit c_this_told_missedDots c_this_told_firstPass c_this_told_lastPass c_this_told_dotsPrinted c_this_told_gutter) (C : ClsSh σ gf g_size g_lost g_items f_this_latestFinding) (h : ∀ fi str pic hc hp ph md fp lp dp gt cc cn, ClsT (opRead σ d x1).2.1 s n ek ea en str pic c_this_told_head c_this_told_living hc hp ph md fp lp dp gt → ClsSh (opRead σ d x1).2.2 gf g_size g_lost g_items fi → post (opRead σ d x1).1 (fi, str, pic, hc, hp, ph, md, fp, lp, dp, gt, cc, cn)) : wp_X3_read x1 f_this_latestFinding f_this_told_strayed c_this_told_picture c_this_told_head c_this_told_living c_this_told_hitCount c_this_told_hitPlace c_this_told_printingHit c_this_told_missedDots c_this_told_firstPass c_this_told_lastPass c_this_told_dotsPrinted c_this_told_gutter c_this_told_canColumns c_this_told_canCount g_size g_lost g_items post := by
  obtain ⟨t1, t2, t3, t4⟩ := id T
  obtain ⟨f0, c0⟩ := id C
  unfold wp_X3_read
  unfold opRead at h
  by_cases c1 : ((0 : Int32) ≤ x1 ∧ x1 ≤ 3)
  · refine s_shT c1 (no2 one0 ?_)
    simp only [if_pos c1] at h
    obtain ⟨j, hj, e⟩ := (q_rng (n := 3) (by decide)).mp c1
    subst e
    rw [nI_clamp (by omega)] at h
    obtain ⟨b1, b2, b3, b4, b5, b6⟩ := c0 j (by omega)
    refine ⟨vp_in_nI (by omega) (by omega), ?_⟩
    rw [nI_clamp (by omega), b3, b01n]
    by_cases c : σ.1 j = true
    · simp only [if_pos c] at h
      refine yes1 c ?_
      obtain ⟨m1, m2⟩ := mn16_le (σ.2.2.1 j)
      rw [forall_eq, b2, q_mn16 b6]
      obtain ⟨r1, r2, r3⟩ := rdn_le (σ.2.2.2.1 j) (mn16 (σ.2.2.1 j)) 0
      have key : ∀ (Ke : Int32 → (Nat → Int32) → Prop), (∀ pic, (∀ y, y < 16 → pic y = if y < rdn (σ.2.2.2.1 j) (mn16 (σ.2.2.1 j)) 0 then σ.2.2.2.1 j y else nI (d y)) → Ke (nI (rdn (σ.2.2.2.1 j) (mn16 (σ.2.2.1 j)) 0)) pic) → ∀ (m r k : Nat) (pic : Nat → Int32), k + r = mn16 (σ.2.2.1 j) → r < m → rdn (σ.2.2.2.1 j) r k = rdn (σ.2.2.2.1 j) (mn16 (σ.2.2.1 j)) 0 → (∀ y, y < 16 → pic y = if y < k then σ.2.2.2.1 j y else nI (d y)) → wq_X3_read_43 j c_this_told_head c_this_told_living g_size g_lost g_items (nI (mn16 (σ.2.2.1 j))) f_this_latestFinding f_this_told_strayed c_this_told_hitCount c_this_told_hitPlace c_this_told_printingHit c_this_told_missedDots c_this_told_firstPass c_this_told_lastPass c_this_told_dotsPrinted c_this_told_gutter c_this_told_canColumns c_this_told_canCount post Ke m (nI k) pic := by
        intro Ke hK m
        induction m with
        | zero => intro r k pic g1 g2; omega
        | succ m ih =>
          intro r k pic g1 g2 hr hI
          unfold wq_X3_read_43
          rw [nI_leI (by omega) (by omega)]
          cases r with
          | zero =>
            refine yes1 (by omega) ?_
            have e : k = rdn (σ.2.2.2.1 j) (mn16 (σ.2.2.1 j)) 0 := hr
            rw [e]; rw [e] at hI; exact hK pic hI
          | succ r =>
            refine no1 (by omega) ⟨vp_in_nI (by omega) (by omega), ?_⟩
            rw [rdn_s] at hr
            rw [forall_eq, nI_clamp (by omega), b4 k (by omega)]
            by_cases q : (0 : Int32) ≤ σ.2.2.2.1 j k ∧ σ.2.2.2.1 j k ≤ 255
            · rw [if_pos q] at hr
              refine s_withinT q (no1 one0 ⟨vp_in_nI (by omega) (by omega), ?_⟩)
              rw [forall_eq]
              refine ⟨vp_in_nI (by omega) (by omega), ?_⟩
              rw [forall_eq, nI_1]
              refine ih r (k + 1) _ (by omega) (by omega) hr (fun y hy => ?_)
              by_cases e : y = k
              · subst e; rw [pk_us, if_pos (by omega)]
              · rw [pk_un e, hI y hy]
                by_cases z : y < k
                · rw [if_pos z, if_pos (by omega)]
                · rw [if_neg z, if_neg (by omega)]
            · rw [if_neg q] at hr
              refine s_withinF q (yes1 rfl ?_)
              rw [← hr] at hK
              exact hK pic hI
      refine ⟨mn16 (σ.2.2.1 j) + 1, key _ (fun pic hpic => ?_) _ (mn16 (σ.2.2.1 j)) 0 _ (by omega) (by omega) rfl (fun y hy => by rw [if_neg (by omega)]; exact (t2 y hy).1)⟩
      have hp := rd_pic (fun y hy => (t2 y hy).2) (fun z hz => r3 z (by omega) hz) hpic
      exact s_print t1 t3 hp (fun str hc hp' ph md fp lp dp gt cc cn hP => h _ _ _ _ _ _ _ _ _ _ _ _ _ ⟨t1, hp, t3, hP⟩ C)
    · simp only [if_neg c] at h
      exact no1 c (h _ _ _ _ _ _ _ _ _ _ _ _ _ T ⟨rfl, c0⟩)
  · simp only [if_neg c1] at h
    exact s_shF c1 (yes2 rfl (h _ _ _ _ _ _ _ _ _ _ _ _ _ T C))
theorem r_read {d : Nat → Nat} {σ : Sh} {cf : Nat → Int32} {x1 : Int32} {f_this_finding : Int32} {c_this_told : Nat → Int32} {c_this_isThere : Nat → Int32} {c_this_sizes : Nat → Int32} {c_this_items : Nat → Int32} {post : Int32 → (Int32 × (Nat → Int32)) → Prop} (hp : PicOk d c_this_told) (C : RefSh σ c_this_isThere cf c_this_sizes c_this_items f_this_finding) (h : ∀ fi t, PicOk (opRead σ d x1).2.1 t → RefSh (opRead σ d x1).2.2 c_this_isThere cf c_this_sizes c_this_items fi → post (opRead σ d x1).1 (fi, t)) : wp_X4_read x1 f_this_finding c_this_told c_this_isThere c_this_sizes c_this_items post := by
  obtain ⟨f0, c0⟩ := id C
  unfold wp_X4_read
  unfold opRead at h
  by_cases c1 : ((0 : Int32) ≤ x1 ∧ x1 ≤ 3)
  · refine r_shT c1 (no2 one0 ?_)
    simp only [if_pos c1] at h
    obtain ⟨j, hj, e⟩ := (q_rng (n := 3) (by decide)).mp c1
    subst e
    rw [nI_clamp (by omega)] at h
    obtain ⟨b1, b2, b3, b4, b5, b6⟩ := c0 j (by omega)
    refine ⟨vp_in_nI (by omega) (by omega), ?_⟩
    rw [nI_clamp (by omega), b3, b01_0]
    by_cases c : σ.1 j = true
    · simp only [if_pos c] at h
      refine no2 (by rw [c]; decide) ?_
      obtain ⟨m1, m2⟩ := mn16_le (σ.2.2.1 j)
      obtain ⟨r1, r2, r3⟩ := rdn_le (σ.2.2.2.1 j) (mn16 (σ.2.2.1 j)) 0
      have m3 : mn16 (σ.2.2.1 j) = 16 ∨ mn16 (σ.2.2.1 j) = σ.2.2.1 j := by
        unfold mn16
        by_cases z : 16 < σ.2.2.1 j
        · rw [if_pos z]; exact Or.inl rfl
        · rw [if_neg z]; exact Or.inr rfl
      have key : ∀ (Ke : Int32 → (Nat → Int32) → Prop), (∀ pic, (∀ y, y < 16 → pic y = if y < rdn (σ.2.2.2.1 j) (mn16 (σ.2.2.1 j)) 0 then σ.2.2.2.1 j y else nI (d y)) → Ke (nI (rdn (σ.2.2.2.1 j) (mn16 (σ.2.2.1 j)) 0)) pic) → ∀ (m r k : Nat) (pic : Nat → Int32), k + r = mn16 (σ.2.2.1 j) → r < m → rdn (σ.2.2.2.1 j) r k = rdn (σ.2.2.2.1 j) (mn16 (σ.2.2.1 j)) 0 → (∀ y, y < 16 → pic y = if y < k then σ.2.2.2.1 j y else nI (d y)) → wq_X4_read_27 c_this_isThere c_this_sizes c_this_items (nI j) f_this_finding post Ke m (nI k) pic := by
        intro Ke hK m
        induction m with
        | zero => intro r k pic g1 g2; omega
        | succ m ih =>
          intro r k pic g1 g2 hr hI
          unfold wq_X4_read_27
          refine ⟨vp_in_nI (by omega) (by omega), ?_⟩
          rw [nI_clamp (by omega), b2, nI_leI (by omega) (by omega), show ((16 : Int32) ≤ nI k) ↔ 16 ≤ k from nI_leI (a := 16) (by omega) (by omega)]
          cases r with
          | zero =>
            have e : k = rdn (σ.2.2.2.1 j) (mn16 (σ.2.2.1 j)) 0 := hr
            have fin : Ke (nI k) pic := by rw [e]; rw [e] at hI; exact hK pic hI
            refine ⟨fun _ => fin, fun q => ⟨fun _ => fin, fun q2 => absurd trivial (by omega)⟩⟩
          | succ r =>
            refine no1 (by omega) (no1 (by omega) ?_)
            rw [rdn_s] at hr
            simp only [forall_eq]
            rw [show (60 : Int32) = nI 60 from rfl, pk_mul, nI_add, nI_clamp (by omega), b4 k (by omega)]
            have hv := vp_in_nI (n := 60 * j + k) (N := 240) (by omega) (by omega)
            refine ⟨hv, ?_⟩
            by_cases q : (0 : Int32) ≤ σ.2.2.2.1 j k ∧ σ.2.2.2.1 j k ≤ 255
            · rw [if_pos q] at hr
              refine r_inT q (no1 one0 ⟨hv, vp_in_nI (by omega) (by omega), ?_⟩)
              rw [nI_1, nI_clamp (by omega)]
              refine ih r (k + 1) _ (by omega) (by omega) hr (fun y hy => ?_)
              by_cases e : y = k
              · subst e; rw [pk_us, if_pos (by omega)]
              · rw [pk_un e, hI y hy]
                by_cases z : y < k
                · rw [if_pos z, if_pos (by omega)]
                · rw [if_neg z, if_neg (by omega)]
            · rw [if_neg q] at hr
              refine r_inF q (yes1 rfl ?_)
              rw [← hr] at hK
              exact hK pic hI
      refine ⟨mn16 (σ.2.2.1 j) + 1, key _ (fun pic hpic => ?_) _ (mn16 (σ.2.2.1 j)) 0 _ (by omega) (by omega) rfl (fun y hy => by rw [if_neg (by omega)]; exact (hp y hy).1)⟩
      exact h _ _ (rd_pic (fun y hy => (hp y hy).2) (fun z hz => r3 z (by omega) hz) hpic) C
    · simp only [if_neg c] at h
      exact yes2 (by cases q : σ.1 j with | false => rfl | true => exact absurd q c) (h _ _ hp ⟨rfl, c0⟩)
  · simp only [if_neg c1] at h
    exact r_shF c1 (yes2 rfl (h _ _ hp C))
/-- count -/
noncomputable def aCount (d s : Nat → Nat) (n : Nat) (ek ea en : Nat → Nat) (sn : Nat) (fi : Int32) (x : Int32) : Int32 :=
  if x = 0 then aSum s (al0 n ek ea en) d 0 else if x = 1 then nI (sHits s) else if x = 2 then nI n else if x = 3 then aSum s (al0 n ek ea en) d 1 else if x = 4 then nI (sLeast s (al0 n ek ea en) d) else if x = 5 then aSum s (al0 n ek ea en) d 3 else if x = 6 then nI (mxo s (al0 n ek ea en) d (s 3)) else if x = 7 then nI sn else if x = 8 then fi else -2
theorem if_go {c : Prop} [Decidable c] {A B : Prop} {u v : Int32} {P : Int32 → Prop} (h : P (if c then u else v)) (ha : P u → A) (hb : P v → B) : (c → A) ∧ (¬ c → B) := ⟨fun q => by rw [if_pos q] at h; exact ha h, fun q => by rw [if_neg q] at h; exact hb h⟩
theorem s_count {d s : Nat → Nat} {n : Nat} {ek ea en : Nat → Nat} {sn : Nat} {x1 : Int32} {f_this_seenSize : Int32} {f_this_latestFinding : Int32} {f_this_told_strayed : Int32} {c_this_told_picture : Nat → Int32} {c_this_told_head : Nat → Int32} {c_this_told_living : Nat → Int32} {c_this_told_hitCount : Nat → Int32} {c_this_told_hitPlace : Nat → Int32} {c_this_told_missedDots : Nat → Int32} {c_this_told_firstPass : Nat → Int32} {c_this_told_lastPass : Nat → Int32} {c_this_told_gutter : Nat → Int32} {f_this_events_size : Int32} {post : Int32 → Unit → Prop} {ph dp : Nat → Int32} (T : ClsT d s n ek ea en f_this_told_strayed c_this_told_picture c_this_told_head c_this_told_living c_this_told_hitCount c_this_told_hitPlace ph c_this_told_missedDots c_this_told_firstPass c_this_told_lastPass dp c_this_told_gutter) (hev : f_this_events_size = nI n) (hsn : f_this_seenSize = nI sn) (h : post (aCount d s n ek ea en sn f_this_latestFinding x1) ()) : wp_X3_count x1 f_this_seenSize f_this_latestFinding f_this_told_strayed c_this_told_picture c_this_told_head c_this_told_living c_this_told_hitCount c_this_told_hitPlace c_this_told_missedDots c_this_told_firstPass c_this_told_lastPass c_this_told_gutter f_this_events_size post := by
  obtain ⟨t1, t2, t3, t4⟩ := id T
  have H := t1.1
  have P := fun (r : Int32) => post r ()
  unfold wp_X3_count
  unfold aCount at h
  have sm : ∀ w : Nat, w ≤ 3 → post (aSum s (al0 n ek ea en) d w) () → wp_X3_sum (nI w) f_this_told_strayed c_this_told_picture c_this_told_missedDots c_this_told_gutter (fun r _ => post r ()) := fun w hw hq => s_sum H t2 t4 (by
    unfold ans_in
    rw [if_pos (show (0 : Int32) ≤ nI w ∧ nI w ≤ 3 from in_nI (n := 3) hw (by decide)), nI_clamp (by omega)]; exact hq)
  refine if_go (P := fun r => post r ()) h (fun q => sm 0 (by omega) q) (fun h => ?_)
  refine if_go (P := fun r => post r ()) h (fun q => s_allHits t4.1.1 q) (fun h => ?_)
  refine if_go (P := fun r => post r ()) h (fun q => by rw [hev]; exact q) (fun h => ?_)
  refine if_go (P := fun r => post r ()) h (fun q => sm 1 (by omega) q) (fun h => ?_)
  refine if_go (P := fun r => post r ()) h (fun q => s_least t1 t2 t3 t4.1 q) (fun h => ?_)
  refine if_go (P := fun r => post r ()) h (fun q => sm 3 (by omega) q) (fun h => ?_)
  refine if_go (P := fun r => post r ()) h (fun q => s_open t1 t4.2.1.2.2.2.1 t4.2.1.2.2.2.2.1 q) (fun h => ?_)
  refine if_go (P := fun r => post r ()) h (fun q => by rw [hsn]; exact q) (fun h => ?_)
  exact if_go (P := fun r => post r ()) h (fun q => q) (fun h => h)
theorem r_count {d s : Nat → Nat} {n : Nat} {ek ea en : Nat → Nat} {sn : Nat} {x1 : Int32} {f_this_events : Int32} {f_this_notEvents : Int32} {f_this_deadNow : Int32} {f_this_allMissed : Int32} {f_this_allWanted : Int32} {f_this_allPrinted : Int32} {f_this_seens : Int32} {f_this_finding : Int32} {c_this_told : Nat → Int32} {c_this_head : Nat → Int32} {c_this_eventKind : Nat → Int32} {c_this_eventAt : Nat → Int32} {c_this_eventNozzle : Nat → Int32} {c_this_dots : Nat → Int32} {c_this_now : Nat → Int32} {c_this_hitMany : Nat → Int32} {c_this_hitPass : Nat → Int32} {c_this_hitNozzle : Nat → Int32} {c_this_hitPrints : Nat → Int32} {c_this_canMany : Nat → Int32} {c_this_printedBy : Nat → Int32} {c_this_missing : Nat → Int32} {c_this_prints : Nat → Int32} {c_this_gutter : Nat → Int32} {c_this_able : Nat → Int32} {post : Int32 → (Int32 × Int32 × Int32 × Int32 × Int32 × (Nat → Int32) × (Nat → Int32) × (Nat → Int32) × (Nat → Int32) × (Nat → Int32) × (Nat → Int32) × (Nat → Int32) × (Nat → Int32) × (Nat → Int32) × (Nat → Int32) × (Nat → Int32) × (Nat → Int32)) → Prop} (I : RefI d s n ek ea en c_this_told c_this_head f_this_events c_this_eventKind c_this_eventAt c_this_eventNozzle) (hsn : f_this_seens = nI sn) (h : ∀ u, post (aCount d s n ek ea en sn f_this_finding x1) u) : wp_X4_count x1 f_this_events f_this_notEvents f_this_deadNow f_this_allMissed f_this_allWanted f_this_allPrinted f_this_seens f_this_finding c_this_told c_this_head c_this_eventKind c_this_eventAt c_this_eventNozzle c_this_dots c_this_now c_this_hitMany c_this_hitPass c_this_hitNozzle c_this_hitPrints c_this_canMany c_this_printedBy c_this_missing c_this_prints c_this_gutter c_this_able post := by
  unfold wp_X4_count
  unfold aCount at h
  refine if_go (P := fun r => ∀ u, post r u) h (fun q => r_sumOf (w := 0) I (by decide) (fun u => q _)) (fun h => ?_)
  refine if_go (P := fun r => ∀ u, post r u) h (fun q => r_hitsAll I (fun u => q _)) (fun h => ?_)
  refine if_go (P := fun r => ∀ u, post r u) h (fun q => by rw [I.2.2.1]; exact q _) (fun h => ?_)
  refine if_go (P := fun r => ∀ u, post r u) h (fun q => r_sumOf (w := 1) I (by decide) (fun u => q _)) (fun h => ?_)
  refine if_go (P := fun r => ∀ u, post r u) h (fun q => r_leastOf I (fun u => q _)) (fun h => ?_)
  refine if_go (P := fun r => ∀ u, post r u) h (fun q => r_sumOf (w := 3) I (by decide) (fun u => q _)) (fun h => ?_)
  refine if_go (P := fun r => ∀ u, post r u) h (fun q => r_openOf I (fun u => q _)) (fun h => ?_)
  refine if_go (P := fun r => ∀ u, post r u) h (fun q => by rw [hsn]; exact q _) (fun h => ?_)
  exact if_go (P := fun r => ∀ u, post r u) h (fun q => q _) (fun h => h _)
