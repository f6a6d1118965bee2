/-! the reference's run: rests, and all of it -/
def GutR (s : Nat → Nat) (al : Nat → Nat → Bool) (D : Nat → Nat) (gt : Nat → Int32) : Prop := ∀ p, p < 12 → ∀ j, j < 8 → gt (8 * p + j) = nI (if j < s 0 ∧ (gu s al D j (s 3)).2.testBit p = true then 1 else 0)
theorem tb_or (b p k : Nat) : (b ||| 2 ^ p).testBit k = (b.testBit k || decide (k = p)) := fb_bit_set b p k
theorem gu_bit {s : Nat → Nat} {al : Nat → Nat → Bool} {D : Nat → Nat} {j p k : Nat} (h : k ≠ p) : (gu s al D j (p + 1)).2.testBit k = (gu s al D j p).2.testBit k := by
  rw [gu]
  by_cases e : (if al p j = true ∧ D (8 * p + j) = 0 then (gu s al D j p).1 + 1 else 0) = s 6
  · rw [if_pos e]
    show ((gu s al D j p).2 ||| 2 ^ p).testBit k = _
    rw [tb_or, decide_eq_false h, Bool.or_false]
  · rw [if_neg e]
theorem gu_bit0 (s : Nat → Nat) (al : Nat → Nat → Bool) (D : Nat → Nat) (j p k : Nat) (h : p ≤ k) : (gu s al D j p).2.testBit k = false := Nat.testBit_lt_two_pow (Nat.lt_of_lt_of_le (gu_le s al D j p).2 (Nat.pow_le_pow_right (by decide) h))
theorem r_rests_in {s : Nat → Nat} {al : Nat → Nat → Bool} {now pt ck ca cn : Nat → Int32} {ev ne dead : Int32} (hh : Hd s now) (hA : RAlv al ev ne dead ck ca cn) {D : Nat → Nat} (hD : ∀ k, k < 96 → pt k = nI (D k)) (hb : ∀ k, D k < 2 ^ 31) {j : Nat} (hj : j < 8) {g0 : Nat → Int32} {post : (Nat → Int32) → Prop} {Ke : (Nat → Int32) → Prop}
    (hK : ∀ g, (∀ k, k % 8 ≠ j → g k = g0 k) → (∀ p, p < 12 → g (8 * p + j) = nI (if (gu s al D j (s 3)).2.testBit p = true then 1 else 0)) → Ke g) :
    ∀ (m p : Nat) (g : Nat → Int32), p ≤ s 3 → s 3 - p < m → (∀ k, k % 8 ≠ j → g k = g0 k) → (∀ q, q < 12 → g (8 * q + j) = nI (if (gu s al D j p).2.testBit q = true then 1 else 0)) → wq_X4_rests_16 ev ne dead ck ca cn now pt (nI j) post Ke m (nI (gu s al D j p).1) (nI p) g := by
  obtain ⟨a0, a1, a2, a3, a4, a5, a6, a7, a8⟩ := hh.1
  intro m
  induction m with
  | zero => intro p g g1 g2; omega
  | succ m ih =>
    intro p g g1 g2 h1 h2
    unfold wq_X4_rests_16
    rw [hh.at 3 (by omega) (by omega)]
    simp (disch := omega) only [nI_leI]
    refine ⟨fun c => ?_, fun c => ?_⟩
    · have e : p = s 3 := by omega
      subst e; exact hK g h1 h2
    · obtain ⟨l1, l2⟩ := gu_le s al D j p
      have join : ∀ v, v ≤ 12 → v = (if al p j = true ∧ D (8 * p + j) = 0 then (gu s al D j p).1 + 1 else 0) → wq_X4_rests_60 ev ne dead ck ca cn now pt (nI j) post (wq_X4_rests_16 ev ne dead ck ca cn now pt (nI j) post Ke m) Ke (nI p) (nI (8 * p + j)) (nI v) g := by
        intro v hv12 hv
        have hgu : gu s al D j (p + 1) = if v = s 6 then (0, (gu s al D j p).2 ||| 2 ^ p) else (v, (gu s al D j p).2) := by rw [gu, ← hv]
        have fin : ∀ w, nI w = nI (if (gu s al D j (p + 1)).2.testBit p = true then 1 else 0) → ∀ q, q < 12 → upd g (8 * p + j) (nI w) (8 * q + j) = nI (if (gu s al D j (p + 1)).2.testBit q = true then 1 else 0) := by
          intro w hw q hq
          by_cases e : q = p
          · subst e; rw [pk_us]; exact hw
          · rw [pk_un (by omega), gu_bit e]; exact h2 q hq
        unfold wq_X4_rests_60
        rw [hh.at 6 (by omega) (by omega)]
        simp (disch := omega) only [nI_eq]
        refine ⟨fun c1 => ?_, fun c1 => ?_⟩
        · unfold wq_X4_rests_83
          rw [hh.at 6 (by omega) (by omega)]
          simp (disch := omega) only [nI_eq, q_in, nI_clamp, true_and, forall_eq, nI_add, fa_lit]
          refine ⟨fun _ => ?_, fun q => absurd q c1⟩
          have e1 : (gu s al D j (p + 1)).1 = v := by rw [hgu, if_neg c1]
          have e2 : (gu s al D j (p + 1)).2.testBit p = false := by rw [hgu, if_neg c1]; exact gu_bit0 s al D j p p (Nat.le_refl _)
          have := ih (p + 1) (upd g (8 * p + j) (nI 0)) (by omega) (by omega) (fun k hk => by rw [pk_un (by omega)]; exact h1 k hk) (fin 0 (by rw [e2]; rfl))
          rw [e1] at this
          exact this
        · unfold wq_X4_rests_83
          rw [hh.at 6 (by omega) (by omega)]
          simp (disch := omega) only [nI_eq, q_in, nI_clamp, true_and, forall_eq, nI_add, fa_lit]
          refine ⟨fun q => absurd c1 q, fun _ => ?_⟩
          have e1 : (gu s al D j (p + 1)).1 = 0 := by rw [hgu, if_pos c1]
          have e2 : (gu s al D j (p + 1)).2.testBit p = true := by rw [hgu, if_pos c1]; show ((gu s al D j p).2 ||| 2 ^ p).testBit p = true; rw [tb_or]; simp
          have := ih (p + 1) (upd g (8 * p + j) (nI 1)) (by omega) (by omega) (fun k hk => by rw [pk_un (by omega)]; exact h1 k hk) (fin 1 (by rw [e2]; rfl))
          rw [e1] at this
          exact this
      simp (disch := omega) only [forall_eq, fa_lit, pk_mul, nI_add]
      refine hA p j _ (by omega) (by omega) ?_
      rw [show (nI 0 : Int32) = 0 from rfl, b01_0]
      refine ⟨fun c1 => join 0 (by omega) (by rw [if_neg (by rw [c1]; simp)]), fun c1 => ?_⟩
      have c1 : al p j = true := by cases e : al p j with
        | false => exact absurd e c1
        | true => rfl
      have hdb := hb (8 * p + j)
      refine ⟨vp_in_nI (by omega) (by omega), ?_⟩
      rw [nI_clamp (by omega), hD (8 * p + j) (by omega)]
      refine ⟨fun c2 => ?_, fun c2 => ?_⟩
      · have c2 := (nI_leI (b := 0) hdb (by omega)).mp c2
        exact join _ (by omega) (by rw [if_pos ⟨c1, by omega⟩])
      · refine join 0 (by omega) (by rw [if_neg]; intro q; exact c2 (by rw [q.2]; exact Int32.le_refl _))
theorem r_rests {s : Nat → Nat} {al : Nat → Nat → Bool} {now pt ck ca cn g0 : Nat → Int32} {ev ne dead : Int32} (hh : Hd s now) (hA : RAlv al ev ne dead ck ca cn) {D : Nat → Nat} (hD : ∀ k, k < 96 → pt k = nI (D k)) (hb : ∀ k, D k < 2 ^ 31) (h0 : ∀ k, k < 96 → g0 k = nI 0) {post : (Nat → Int32) → Prop} (h : ∀ g, GutR s al D g → post g) : wp_X4_rests ev ne dead ck ca cn now pt g0 post := by
  obtain ⟨a0, a1, a2, a3, a4, a5, a6, a7, a8⟩ := hh.1
  unfold wp_X4_rests
  have key : ∀ (m j : Nat) (g : Nat → Int32), j ≤ s 0 → s 0 - j < m → (∀ p, p < 12 → ∀ i, i < 8 → g (8 * p + i) = nI (if i < j ∧ (gu s al D i (s 3)).2.testBit p = true then 1 else 0)) → wq_X4_rests_2 ev ne dead ck ca cn now pt post (fun d52 => post d52) m (nI j) g := by
    intro m
    induction m with
    | zero => intro j g g1 g2; omega
    | succ m ih =>
      intro j g g1 g2 hI
      unfold wq_X4_rests_2
      rw [hh.at 0 (by omega) (by omega)]
      simp (disch := omega) only [nI_leI]
      refine ⟨fun c => ?_, fun c => ?_⟩
      · have e : j = s 0 := by omega
        subst e; exact h g hI
      · refine ⟨s 3 + 1, r_rests_in (g0 := g) hh hA hD hb (by omega) (fun g' h1 h2 => ?_) (s 3 + 1) 0 g (by omega) (by omega) (fun k _ => rfl) (fun q hq => ?_)⟩
        · intro v hv
          rw [hv, nI_1]
          refine ih (j + 1) g' (by omega) (by omega) (fun p hp i hi => ?_)
          by_cases e : i = j
          · subst e
            rw [h2 p hp]
            congr 1
            by_cases c : (gu s al D i (s 3)).2.testBit p = true
            · rw [if_pos c, if_pos ⟨by omega, c⟩]
            · rw [if_neg c, if_neg (fun q => c q.2)]
          · rw [h1 _ (by omega), hI p hp i hi]
            congr 1
            by_cases c : i < j ∧ (gu s al D i (s 3)).2.testBit p = true
            · rw [if_pos c, if_pos ⟨by omega, c.2⟩]
            · rw [if_neg c, if_neg (fun q => c ⟨by omega, q.2⟩)]
        · rw [hI q hq j (by omega), if_neg (fun q => absurd q.1 (by omega))]
          show nI 0 = nI (if Nat.testBit 0 q = true then 1 else 0)
          rw [Nat.zero_testBit]; rfl
  refine ⟨s 0 + 1, key (s 0 + 1) 0 g0 (by omega) (by omega) (fun p hp i hi => ?_)⟩
  rw [h0 _ (by omega), if_neg (fun q => absurd q.1 (by omega))]
/-- the state of the printing in the reference's order -/
def rst (s : Nat → Nat) (al : Nat → Nat → Bool) (d : Nat → Nat) (n y x : Nat) : Nat → PSt := fun z => if z < 16 then pf s al z (ordp s al (d z) z n ++ (if z < y then ordk s al (d z) z n 8 else if z = y then ordk s al (d z) z n x else [])) else ps0
theorem rst_x0 (s : Nat → Nat) (al : Nat → Nat → Bool) (d : Nat → Nat) (n y x : Nat) (h : ¬ ((d y).testBit x = true ∧ cm s al y x = n)) : rst s al d n y (x + 1) = rst s al d n y x := by
  funext z
  unfold rst
  by_cases e : z = y
  · subst e; rw [ordk_no h]
  · rw [if_neg e, if_neg e]
theorem rst_x1 {s : Nat → Nat} {al : Nat → Nat → Bool} {d : Nat → Nat} {n y x : Nat} (hy : y < 16) (h1 : (d y).testBit x = true) (h2 : cm s al y x = n) : va_up (rst s al d n y x) y (stp s al y (rst s al d n y x y) x) = rst s al d n y (x + 1) := by
  funext z
  by_cases e : z = y
  · subst e
    rw [va_up_self]
    unfold rst
    rw [if_pos hy, if_pos hy, if_neg (by omega), if_pos rfl, if_neg (by omega), if_pos rfl, ordk_yes h1 h2, ← List.append_assoc, pf_snoc]
  · rw [va_up_ne _ _ e]
    unfold rst
    rw [if_neg e, if_neg e]
theorem rst_y (s : Nat → Nat) (al : Nat → Nat → Bool) (d : Nat → Nat) (n y : Nat) : rst s al d n y 8 = rst s al d n (y + 1) 0 := by
  funext z
  unfold rst
  by_cases c : z < y
  · rw [if_pos c, if_pos (show z < y + 1 by omega)]
  · rw [if_neg c]
    by_cases e : z = y
    · rw [if_pos e, if_pos (show z < y + 1 by omega)]
    · rw [if_neg e, if_neg (show ¬ z < y + 1 by omega)]
      by_cases e2 : z = y + 1
      · rw [if_pos e2]; rfl
      · rw [if_neg e2]
theorem rst_n (s : Nat → Nat) (al : Nat → Nat → Bool) (d : Nat → Nat) (n : Nat) : rst s al d n 16 0 = rst s al d (n + 1) 0 0 := by
  funext z
  unfold rst
  by_cases c : z < 16
  · rw [if_pos c, if_pos c, if_pos c, if_neg (by omega), ordp_s]
    by_cases e : z = 0
    · rw [if_pos e]; show _ = pf s al z (_ ++ []); rw [List.append_nil]
    · rw [if_neg e, List.append_nil]
  · rw [if_neg c, if_neg c]
theorem rst_0 (s : Nat → Nat) (al : Nat → Nat → Bool) (d : Nat → Nat) : rst s al d 0 0 0 = fun _ => ps0 := by
  funext z
  unfold rst
  by_cases c : z < 16
  · rw [if_pos c, if_neg (by omega)]
    by_cases e : z = 0
    · rw [if_pos e]; rfl
    · rw [if_neg e]; rfl
  · rw [if_neg c]
theorem rst_13 (s : Nat → Nat) (al : Nat → Nat → Bool) (d : Nat → Nat) : rst s al d 13 0 0 = stk s al d 16 := by
  funext z
  unfold rst stk
  by_cases c : z < 16
  · rw [if_pos c, if_pos c, if_neg (by omega)]
    by_cases e : z = 0
    · rw [if_pos e]; show pf s al z (_ ++ []) = _; rw [List.append_nil]; rfl
    · rw [if_neg e, List.append_nil]; rfl
  · rw [if_neg c, if_neg c]
theorem rst_bnd (s : Nat → Nat) (al : Nat → Nat → Bool) (d : Nat → Nat) (n y x : Nat) : Bnd s (rst s al d n y x) := by
  intro z i
  unfold rst
  by_cases c : z < 16
  · rw [if_pos c]; exact pf_bnd s al z _ i
  · rw [if_neg c]; exact Nat.zero_le _
/-- all that the reference has run -/
def RunOk (s : Nat → Nat) (al : Nat → Nat → Bool) (d : Nat → Nat) (aM aW aP : Int32) (hm hP hN hR cM pB mi pt gt : Nat → Int32) : Prop := RefH s hm hP hN ∧ RefP s (stk s al d 16) aM aW aP hR pB mi pt ∧ GutR s al (PDv s (stk s al d 16)) gt
theorem r_runs {s : Nat → Nat} {al : Nat → Nat → Bool} {d : Nat → Nat} {now dots ck ca cn hm0 hP0 hN0 hR0 cM0 pB0 mi0 pt0 gt0 : Nat → Int32} {ev ne dead aM0 aW0 aP0 : Int32} (hh : Hd s now) (hA : RAlv al ev ne dead ck ca cn) (hpic : PicOk d dots) {post : (Int32 × Int32 × Int32 × (Nat → Int32) × (Nat → Int32) × (Nat → Int32) × (Nat → Int32) × (Nat → Int32) × (Nat → Int32) × (Nat → Int32) × (Nat → Int32) × (Nat → Int32)) → Prop}
    (h : ∀ aM aW aP hm hP hN hR cM pB mi pt gt, RunOk s al d aM aW aP hm hP hN hR cM pB mi pt gt → post (aM, aW, aP, hm, hP, hN, hR, cM, pB, mi, pt, gt)) : wp_X4_runs ev ne dead aM0 aW0 aP0 ck ca cn dots now hm0 hP0 hN0 hR0 cM0 pB0 mi0 pt0 gt0 post := by
  have H := hh.1
  obtain ⟨a0, a1, a2, a3, a4, a5, a6, a7, a8⟩ := id H
  unfold wp_X4_runs
  refine r_findsHits hh (fun hm hP hN hR hC h1 h2 h3 => ?_)
  have hH : RefH s hm hP hN := ⟨hC, h1, h2⟩
  refine r_findsAble hh hA hH (fun cM pB hcp => ?_)
  have lx : ∀ n, n < 13 → ∀ y, y < 16 → ∀ (gt : Nat → Int32) (Ke : Int32 → Int32 → Int32 → (Nat → Int32) → (Nat → Int32) → (Nat → Int32) → (Nat → Int32) → Prop), (∀ aM aW aP hR pB mi pt, RefP s (rst s al d n (y + 1) 0) aM aW aP hR pB mi pt → Ke aM aW aP hR pB mi pt) → ∀ (m x : Nat) (aM aW aP : Int32) (hR pB mi pt : Nat → Int32), x ≤ 8 → 8 - x < m → RefP s (rst s al d n y x) aM aW aP hR pB mi pt → wq_X4_runs_90 ev ne dead ck ca cn dots now (nI n) (nI y) hm hP hN cM gt post Ke m (nI x) aM aW aP hR pB mi pt := by
    intro n hn y hy gt Ke hK m
    induction m with
    | zero => intro x aM aW aP hR pB mi pt g1 g2; omega
    | succ m ih =>
      intro x aM aW aP hR pB mi pt g1 g2 hS
      unfold wq_X4_runs_90
      simp (disch := omega) only [fa_lit, nI_leI]
      refine ⟨fun c => ?_, fun c => ?_⟩
      · have e : x = 8 := by omega
        subst e
        rw [rst_y] at hS
        exact hK _ _ _ _ _ _ _ hS
      · have hx : x < 8 := by omega
        obtain ⟨q1, q2⟩ := hpic y hy
        have hcm := cm_le s al y x
        have hl12 := hs_len12 H y
        simp (disch := omega) only [q_in, true_and, forall_eq, nI_clamp, q1, pk_mul, nI_add, (hcp y hy x hx).1, nI_eq]
        refine r_isIn (by omega) (by omega) ?_
        rw [show (nI 0 : Int32) = 0 from rfl, b01_0]
        refine ⟨fun c1 => ih (x + 1) _ _ _ _ _ _ _ (by omega) (by omega) (by rw [rst_x0 _ _ _ _ _ _ (fun q => by rw [c1] at q; exact absurd q.1 (by decide))]; exact hS), fun c1 => ⟨fun c2 => ih (x + 1) _ _ _ _ _ _ _ (by omega) (by omega) (by rw [rst_x0 _ _ _ _ _ _ (fun q => c2 q.2)]; exact hS), fun c2 => ?_⟩⟩
        have c1 : (d y).testBit x = true := by cases e : (d y).testBit x with
          | false => exact absurd e c1
          | true => rfl
        refine r_printsOne hh hA hH hy hx hS (rst_bnd s al d n y x) q1 q2 c1 (fun aM aW aP hR pB mi pt hS' => ?_)
        rw [rst_x1 hy c1 c2] at hS'
        exact ih (x + 1) _ _ _ _ _ _ _ (by omega) (by omega) hS'
  have ly : ∀ n, n < 13 → ∀ (gt : Nat → Int32) (Ke : Int32 → Int32 → Int32 → (Nat → Int32) → (Nat → Int32) → (Nat → Int32) → (Nat → Int32) → Prop), (∀ aM aW aP hR pB mi pt, RefP s (rst s al d (n + 1) 0 0) aM aW aP hR pB mi pt → Ke aM aW aP hR pB mi pt) → ∀ (m y : Nat) (aM aW aP : Int32) (hR pB mi pt : Nat → Int32), y ≤ 16 → 16 - y < m → RefP s (rst s al d n y 0) aM aW aP hR pB mi pt → wq_X4_runs_82 ev ne dead ck ca cn dots now (nI n) hm hP hN cM gt post Ke m (nI y) aM aW aP hR pB mi pt := by
    intro n hn gt Ke hK m
    induction m with
    | zero => intro y aM aW aP hR pB mi pt g1 g2; omega
    | succ m ih =>
      intro y aM aW aP hR pB mi pt g1 g2 hS
      unfold wq_X4_runs_82
      simp (disch := omega) only [fa_lit, nI_leI]
      refine ⟨fun c => ?_, fun c => ?_⟩
      · have e : y = 16 := by omega
        subst e
        rw [rst_n] at hS
        exact hK _ _ _ _ _ _ _ hS
      · refine ⟨9, lx n hn y (by omega) gt _ (fun aM aW aP hR pB mi pt hS' => ?_) 9 0 aM aW aP hR pB mi pt (by omega) (by omega) hS⟩
        intro v hv
        rw [hv, nI_add]
        exact ih (y + 1) _ _ _ _ _ _ _ (by omega) (by omega) hS'
  have ln : ∀ (gt : Nat → Int32) (Ke : Int32 → Int32 → Int32 → (Nat → Int32) → (Nat → Int32) → (Nat → Int32) → (Nat → Int32) → Prop), (∀ aM aW aP hR pB mi pt, RefP s (stk s al d 16) aM aW aP hR pB mi pt → Ke aM aW aP hR pB mi pt) → ∀ (m n : Nat) (aM aW aP : Int32) (hR pB mi pt : Nat → Int32), n ≤ 13 → 13 - n < m → RefP s (rst s al d n 0 0) aM aW aP hR pB mi pt → wq_X4_runs_74 ev ne dead ck ca cn dots now hm hP hN cM gt post Ke m (nI n) aM aW aP hR pB mi pt := by
    intro gt Ke hK m
    induction m with
    | zero => intro n aM aW aP hR pB mi pt g1 g2; omega
    | succ m ih =>
      intro n aM aW aP hR pB mi pt g1 g2 hS
      unfold wq_X4_runs_74
      simp (disch := omega) only [fa_lit, nI_leI]
      refine ⟨fun c => ?_, fun c => ?_⟩
      · have e : n = 13 := by omega
        subst e
        rw [rst_13] at hS
        exact hK _ _ _ _ _ _ _ hS
      · refine ⟨17, ly n (by omega) gt _ (fun aM aW aP hR pB mi pt hS' => ?_) 17 0 aM aW aP hR pB mi pt (by omega) (by omega) hS⟩
        intro v hv
        rw [hv, nI_add]
        exact ih (n + 1) _ _ _ _ _ _ _ (by omega) (by omega) hS'
  have lz : ∀ (mi : Nat → Int32) (Ke : (Nat → Int32) → (Nat → Int32) → Prop), (∀ pt gt, (∀ k, k < 96 → pt k = nI 0 ∧ gt k = nI 0) → Ke pt gt) → ∀ (m k : Nat) (pt gt : Nat → Int32), k ≤ 96 → 96 - k < m → (∀ i, i < k → pt i = nI 0 ∧ gt i = nI 0) → wq_X4_runs_46 ev ne dead ck ca cn dots now (0 : Int32) (0 : Int32) (0 : Int32) hm hP hN hR cM pB mi post Ke m (nI k) pt gt := by
    intro mi Ke hK m
    induction m with
    | zero => intro k pt gt g1 g2; omega
    | succ m ih =>
      intro k pt gt g1 g2 hz
      unfold wq_X4_runs_46
      simp (disch := omega) only [fa_lit, nI_leI]
      refine ⟨fun c => hK _ _ (fun i hi => hz i (by omega)), fun c => ?_⟩
      simp (disch := omega) only [q_in, true_and, forall_eq, nI_clamp, nI_add]
      refine ih (k + 1) _ _ (by omega) (by omega) (fun i hi => ?_)
      by_cases e : i = k
      · subst e; exact ⟨pk_us, pk_us⟩
      · rw [pk_un e, pk_un e]; exact hz i (by omega)
  have lm : ∀ (Ke : (Nat → Int32) → Prop), (∀ mi, (∀ k, k < 16 → mi k = nI 0) → Ke mi) → ∀ (m k : Nat) (mi : Nat → Int32), k ≤ 16 → 16 - k < m → (∀ i, i < k → mi i = nI 0) → wq_X4_runs_25 ev ne dead ck ca cn dots now (0 : Int32) (0 : Int32) (0 : Int32) hm hP hN hR cM pB pt0 gt0 post Ke m (nI k) mi := by
    intro Ke hK m
    induction m with
    | zero => intro k mi g1 g2; omega
    | succ m ih =>
      intro k mi g1 g2 hz
      unfold wq_X4_runs_25
      simp (disch := omega) only [fa_lit, nI_leI]
      refine ⟨fun c => hK _ (fun i hi => hz i (by omega)), fun c => ?_⟩
      simp (disch := omega) only [q_in, true_and, forall_eq, nI_clamp, nI_add]
      refine ih (k + 1) _ (by omega) (by omega) (fun i hi => ?_)
      by_cases e : i = k
      · subst e; exact pk_us
      · rw [pk_un e]; exact hz i (by omega)
  refine ⟨17, lm _ (fun mi hmi => ?_) 17 0 mi0 (by omega) (by omega) (fun i hi => by omega)⟩
  refine ⟨97, lz mi _ (fun pt gt hpg => ?_) 97 0 pt0 gt0 (by omega) (by omega) (fun i hi => by omega)⟩
  refine ⟨14, ln gt _ (fun aM aW aP hR' pB' mi' pt' hS' => ?_) 14 0 _ _ _ _ _ _ _ (by omega) (by omega) ?_⟩
  · refine r_rests hh hA (fun k hk => dp_val H hS'.2.2.2.2.2.2 hk) (fun k => by have := pdv_le (stk_bnd s al d 16) k; omega) (fun k hk => (hpg k hk).2) (fun g hg => ?_)
    exact h _ _ _ _ _ _ _ _ _ _ _ _ ⟨hH, hS', hg⟩
  · rw [rst_0]
    refine ⟨rfl, rfl, rfl, fun y hy i q hq => h3 y hy i q hq, fun y hy x hx => (hcp y hy x hx).2, fun y hy => hmi y hy, fun y hy i q hq => ?_, fun k hk _ => (hpg k hk).1⟩
    obtain ⟨b1, b2, b3, b4⟩ := hs_bd H hq
    exact (hpg _ (by omega)).1
