/-! which nozzle is dead; what to look at next -/
def fD (s d : Nat → Nat) (y j : Nat) : Nat := fw s (alD j) (s 5) (d y) y
theorem r_deadsBy {d s : Nat → Nat} {n : Nat} {ek ea en : Nat → Nat} {sn : Nat} {sl sm : Nat → Nat} {f_this_events : Int32} {f_this_notEvents : Int32} {f_this_deadNow : Int32} {f_this_allMissed : Int32} {f_this_allWanted : Int32} {f_this_allPrinted : Int32} {f_this_seens : Int32} {c_this_told : Nat → Int32} {c_this_head : Nat → Int32} {c_this_eventKind : Nat → Int32} {c_this_eventAt : Nat → Int32} {c_this_eventNozzle : Nat → Int32} {c_this_dots : Nat → Int32} {c_this_now : Nat → Int32} {c_this_hitMany : Nat → Int32} {c_this_hitPass : Nat → Int32} {c_this_hitNozzle : Nat → Int32} {c_this_hitPrints : Nat → Int32} {c_this_canMany : Nat → Int32} {c_this_printedBy : Nat → Int32} {c_this_missing : Nat → Int32} {c_this_prints : Nat → Int32} {c_this_gutter : Nat → Int32} {c_this_seenLine : Nat → Int32} {c_this_seenMany : Nat → Int32} {c_this_missedBy : Nat → Int32} {post : Int32 → (Int32 × Int32 × Int32 × Int32 × Int32 × (Nat → Int32) × (Nat → Int32) × (Nat → Int32) × (Nat → Int32) × (Nat → Int32) × (Nat → Int32) × (Nat → Int32) × (Nat → Int32) × (Nat → Int32) × (Nat → Int32) × (Nat → Int32) × (Nat → Int32)) → Prop} (I : RefI d s n ek ea en c_this_told c_this_head f_this_events c_this_eventKind c_this_eventAt c_this_eventNozzle) (S : SeenOk sn sl sm f_this_seens c_this_seenLine c_this_seenMany) (h : ∀ u, (∀ j, j < s 0 → ∀ y, y < 16 → u.2.2.2.2.2.2.2.2.2.2.2.2.2.2.2.2 (16 * j + y) = nI (fD s d y j)) → post (nI (bts (deP s d sn sl sm) (s 0))) u) : wp_X4_deadsBy f_this_events f_this_notEvents f_this_deadNow f_this_allMissed f_this_allWanted f_this_allPrinted f_this_seens c_this_told c_this_head c_this_eventKind c_this_eventAt c_this_eventNozzle c_this_dots c_this_now c_this_hitMany c_this_hitPass c_this_hitNozzle c_this_hitPrints c_this_canMany c_this_printedBy c_this_missing c_this_prints c_this_gutter c_this_seenLine c_this_seenMany c_this_missedBy post := by
  obtain ⟨i1, i2, i3, i4⟩ := I
  subst i3
  have H := i2.1
  have a0 := H.1
  unfold wp_X4_deadsBy
  refine r_asTold i1 i2 (fun dots now hd hnow => ?_)
  dsimp only
  have inn : ∀ (j : Nat), j < s 0 → ∀ (x1 e1 e2 e3 e4 e5 : Int32) (f1 f2 f3 f4 f5 f6 f7 f8 f9 mb0 : Nat → Int32), (∀ y, y < 16 → f7 y = nI (fin s (alD j) (d y) y).2.2.1) → ∀ (Ke : (Nat → Int32) → Prop), (∀ mb, (∀ k, k < 16 * j → mb k = mb0 k) → (∀ y, y < 16 → mb (16 * j + y) = nI (fD s d y j)) → Ke mb) → ∀ (m k : Nat) (mb : Nat → Int32), k ≤ 16 → 16 - k < m → (∀ k, k < 16 * j → mb k = mb0 k) → (∀ y, y < k → mb (16 * j + y) = nI (fD s d y j)) → wq_X4_deadsBy_49 (nI n) f_this_seens c_this_told c_this_head c_this_eventKind c_this_eventAt c_this_eventNozzle c_this_seenLine c_this_seenMany x1 (nI j) e1 e2 e3 e4 e5 dots now f1 f2 f3 f4 f5 f6 f7 f8 f9 post Ke m (nI k) mb := by
    intro j hj x1 e1 e2 e3 e4 e5 f1 f2 f3 f4 f5 f6 f7 f8 f9 mb0 hmi Ke hK m
    induction m with
    | zero => intro k mb g1 g2; omega
    | succ m ih =>
      intro k mb g1 g2 h1 h2
      unfold wq_X4_deadsBy_49
      rw [show ((16 : Int32) ≤ nI k) ↔ 16 ≤ k from nI_leI (a := 16) (by omega) (by omega)]
      refine ⟨fun q => hK mb h1 (fun y hy => h2 y (by omega)), fun q => ?_⟩
      rw [forall_eq, forall_eq, show (16 : Int32) = nI 16 from rfl, pk_mul, nI_add]
      refine ⟨vp_in_nI (by omega) (by omega), ?_⟩
      rw [forall_eq, nI_clamp (by omega), hmi k (by omega)]
      have fn := fin_nums s (alD j) (d k) k
      refine r_many (by omega) ⟨vp_in_nI (by omega) (by omega), ?_⟩
      rw [forall_eq, nI_1, nI_clamp (by omega), fn.2.1, fin_ms H]
      refine ih (k + 1) _ (by omega) (by omega) (fun i hi => by rw [pk_un (by omega)]; exact h1 i hi) (fun y hy => ?_)
      by_cases e : y = k
      · subst e; rw [pk_us]; rfl
      · rw [pk_un (by omega)]; exact h2 y (by omega)
  have key : ∀ (Ke : Int32 → Int32 → Int32 → Int32 → Int32 → (Nat → Int32) → (Nat → Int32) → (Nat → Int32) → (Nat → Int32) → (Nat → Int32) → (Nat → Int32) → (Nat → Int32) → (Nat → Int32) → (Nat → Int32) → (Nat → Int32) → Prop), (∀ e1 e2 e3 e4 f1 f2 f3 f4 f5 f6 f7 f8 f9 f10, (∀ j, j < s 0 → ∀ y, y < 16 → f10 (16 * j + y) = nI (fD s d y j)) → Ke (nI (bts (deP s d sn sl sm) (s 0))) e1 e2 e3 e4 f1 f2 f3 f4 f5 f6 f7 f8 f9 f10) → ∀ (m k : Nat) (e1 e2 e3 e4 : Int32) (f1 f2 f3 f4 f5 f6 f7 f8 f9 f10 : Nat → Int32), k ≤ s 0 → s 0 - k < m → (∀ j, j < k → ∀ y, y < 16 → f10 (16 * j + y) = nI (fD s d y j)) → wq_X4_deadsBy_15 (nI n) f_this_seens c_this_told c_this_head c_this_eventKind c_this_eventAt c_this_eventNozzle c_this_seenLine c_this_seenMany 255 dots now post Ke m (nI (bts (deP s d sn sl sm) k)) (nI k) e1 e2 e3 e4 f1 f2 f3 f4 f5 f6 f7 f8 f9 f10 := by
    intro Ke hK m
    induction m with
    | zero => intro k e1 e2 e3 e4 f1 f2 f3 f4 f5 f6 f7 f8 f9 f10 g1 g2; omega
    | succ m ih =>
      intro k e1 e2 e3 e4 f1 f2 f3 f4 f5 f6 f7 f8 f9 f10 g1 g2 hI
      unfold wq_X4_deadsBy_15
      rw [hnow.at 0 (by omega) (by omega), nI_leI (by omega) (by omega)]
      refine ⟨fun q => ?_, fun q => ?_⟩
      · have e : k = s 0 := by omega
        subst e; exact hK _ _ _ _ _ _ _ _ _ _ _ _ _ _ hI
      · refine r_isSeen hnow (r_alD i4 (by omega)) hd S (fun aM aW aP hm hP hN hR cM pB mi pt gt hmi => ?_)
        rw [b01_0]
        have fin : ∀ v, nI (bts (deP s d sn sl sm) k) ||| v = nI (bts (deP s d sn sl sm) (k + 1)) → wq_X4_deadsBy_45 (nI n) f_this_seens c_this_told c_this_head c_this_eventKind c_this_eventAt c_this_eventNozzle c_this_seenLine c_this_seenMany 255 dots now post (wq_X4_deadsBy_15 (nI n) f_this_seens c_this_told c_this_head c_this_eventKind c_this_eventAt c_this_eventNozzle c_this_seenLine c_this_seenMany 255 dots now post Ke m) Ke (nI k) (nI (bts (deP s d sn sl sm) k)) v (nI k) aM aW aP hm hP hN hR cM pB mi pt gt f10 := by
          intro v hv
          unfold wq_X4_deadsBy_45
          rw [forall_eq, hv]
          refine ⟨17, inn k (by omega) _ _ _ _ _ _ _ _ _ _ _ _ _ _ _ f10 hmi _ (fun mb b1 b2 => ?_) 17 0 f10 (by omega) (by omega) (fun k _ => rfl) (fun y hy => by omega)⟩
          rw [forall_eq, nI_1]
          refine ih (k + 1) _ _ _ _ _ _ _ _ _ _ _ _ _ mb (by omega) (by omega) (fun j hj y hy => ?_)
          by_cases e : j = k
          · subst e; exact b2 y hy
          · rw [b1 _ (by omega)]; exact hI j (by omega) y hy
        dsimp only
        cases hc : fits s d sn sl sm (alD k) (s 5) with
        | false =>
          refine yes1 rfl (fin _ ?_)
          rw [show (0 : Int32) = nI 0 from rfl, fa_or, Nat.or_zero, bts, if_neg (by rw [show deP s d sn sl sm k = false from hc]; decide)]
        | true =>
          refine no1 (by decide) ?_
          rw [forall_eq, q_1sh (by omega)]
          refine fin _ ?_
          rw [fa_or, bts, if_pos (show deP s d sn sl sm k = true from hc)]
  exact ⟨s 0 + 1, key _ (fun e1 e2 e3 e4 f1 f2 f3 f4 f5 f6 f7 f8 f9 f10 hf => h _ hf) (s 0 + 1) 0 _ _ _ _ _ _ _ _ _ _ _ _ _ _ (by omega) (by omega) (fun j hj => by omega)⟩
theorem r_was {d s : Nat → Nat} {n : Nat} {ek ea en : Nat → Nat} {sn : Nat} {sl sm : Nat → Nat} {x1 : Int32} {f_this_events : Int32} {f_this_notEvents : Int32} {f_this_deadNow : Int32} {f_this_allMissed : Int32} {f_this_allWanted : Int32} {f_this_allPrinted : Int32} {f_this_seens : Int32} {c_this_told : Nat → Int32} {c_this_head : Nat → Int32} {c_this_eventKind : Nat → Int32} {c_this_eventAt : Nat → Int32} {c_this_eventNozzle : Nat → Int32} {c_this_dots : Nat → Int32} {c_this_now : Nat → Int32} {c_this_hitMany : Nat → Int32} {c_this_hitPass : Nat → Int32} {c_this_hitNozzle : Nat → Int32} {c_this_hitPrints : Nat → Int32} {c_this_canMany : Nat → Int32} {c_this_printedBy : Nat → Int32} {c_this_missing : Nat → Int32} {c_this_prints : Nat → Int32} {c_this_gutter : Nat → Int32} {c_this_seenLine : Nat → Int32} {c_this_seenMany : Nat → Int32} {c_this_missedBy : Nat → Int32} {post : Int32 → (Int32 × Int32 × Int32 × Int32 × Int32 × (Nat → Int32) × (Nat → Int32) × (Nat → Int32) × (Nat → Int32) × (Nat → Int32) × (Nat → Int32) × (Nat → Int32) × (Nat → Int32) × (Nat → Int32) × (Nat → Int32) × (Nat → Int32) × (Nat → Int32)) → Prop} (I : RefI d s n ek ea en c_this_told c_this_head f_this_events c_this_eventKind c_this_eventAt c_this_eventNozzle) (S : SeenOk sn sl sm f_this_seens c_this_seenLine c_this_seenMany) (h : ∀ u, post (ans_in ((0 : Int32) ≤ x1 ∧ x1 ≤ 1) (aWas s d (al0 n ek ea en) sn sl sm x1.toNatClampNeg)) u) : wp_X4_was x1 f_this_events f_this_notEvents f_this_deadNow f_this_allMissed f_this_allWanted f_this_allPrinted f_this_seens c_this_told c_this_head c_this_eventKind c_this_eventAt c_this_eventNozzle c_this_dots c_this_now c_this_hitMany c_this_hitPass c_this_hitNozzle c_this_hitPrints c_this_canMany c_this_printedBy c_this_missing c_this_prints c_this_gutter c_this_seenLine c_this_seenMany c_this_missedBy post := by
  unfold wp_X4_was
  unfold ans_in at h
  by_cases c : (0 : Int32) ≤ x1 ∧ x1 ≤ 1
  · refine r_twoT c (no1 one0 ?_)
    rw [if_pos c] at h
    obtain ⟨w, hw, e⟩ := (q_rng (n := 1) (by decide)).mp c
    subst e
    rw [nI_clamp (by omega)] at h
    unfold aWas at h
    by_cases w0 : w = 0
    · simp only [if_pos w0] at h
      exact yes2 (by rw [w0]; rfl) (r_deadsBy I S (fun u _ => h _))
    · simp only [if_neg w0] at h
      exact no2 (fun q => w0 ((nI_eq (b := 0) (by omega) (by omega)).mp q)) (r_capsBy I S (fun u => h _))
  · rw [if_neg c] at h
    exact r_twoF c (yes1 rfl (h _))
/-- groups -/
def grc (f : Nat → Nat) (D : Nat) (v : Nat) : Nat → Nat := fb_ct (fun j => D.testBit j && decide (f j = v))
def ggr (f : Nat → Nat) (D : Nat) : Nat → Nat
  | 0 => 0
  | k + 1 => if D.testBit k = true then (if ggr f D k < grc f D (f k) (k + 1) then grc f D (f k) (k + 1) else ggr f D k) else ggr f D k
def mmr (f : Nat → Nat) (D N : Nat) : Nat → Nat
  | 0 => 0
  | a + 1 => if (if D.testBit a = true then grc f D (f a) N else 0) ≤ mmr f D N a then mmr f D N a else (if D.testBit a = true then grc f D (f a) N else 0)
theorem ggr_ge (f : Nat → Nat) (D : Nat) : ∀ k v, grc f D v k ≤ ggr f D k := by
  intro k
  induction k with
  | zero => intro v; exact Nat.le_refl _
  | succ k ih =>
    intro v
    unfold ggr
    have hs : grc f D v (k + 1) = grc f D v k + (if (D.testBit k && decide (f k = v)) = true then 1 else 0) := rfl
    by_cases c : D.testBit k = true
    · rw [if_pos c]
      by_cases e : f k = v
      · rw [e]
        by_cases q : ggr f D k < grc f D v (k + 1)
        · rw [if_pos q]; exact Nat.le_refl _
        · rw [if_neg q]; omega
      · have z : grc f D v (k + 1) = grc f D v k := by
          rw [hs, if_neg (by rw [decide_eq_false e, Bool.and_false]; decide), Nat.add_zero]
        have := ih v
        by_cases q : ggr f D k < grc f D (f k) (k + 1)
        · rw [if_pos q]; omega
        · rw [if_neg q]; omega
    · rw [if_neg c]
      have z : grc f D v (k + 1) = grc f D v k := by
        rw [hs, if_neg (by rw [Bool.and_eq_true]; exact fun q => c q.1), Nat.add_zero]
      rw [z]; exact ih v
theorem ggr_le (f : Nat → Nat) (D N B : Nat) (hB : ∀ a, a < N → D.testBit a = true → grc f D (f a) N ≤ B) : ∀ k, k ≤ N → ggr f D k ≤ B := by
  intro k
  induction k with
  | zero => intro _; exact Nat.zero_le _
  | succ k ih =>
    intro hk
    unfold ggr
    have h1 := ih (by omega)
    by_cases c : D.testBit k = true
    · rw [if_pos c]
      by_cases q : ggr f D k < grc f D (f k) (k + 1)
      · rw [if_pos q]
        exact Nat.le_trans (fb_ct_mono _ hk) (hB k (by omega) c)
      · rw [if_neg q]; exact h1
    · rw [if_neg c]; exact h1
theorem mmr_ge (f : Nat → Nat) (D N : Nat) : ∀ k a, a < k → D.testBit a = true → grc f D (f a) N ≤ mmr f D N k := by
  intro k
  induction k with
  | zero => intro a h; omega
  | succ k ih =>
    intro a ha hD
    unfold mmr
    by_cases e : a = k
    · subst e
      rw [if_pos hD]
      by_cases q : grc f D (f a) N ≤ mmr f D N a
      · rw [if_pos q]; exact q
      · rw [if_neg q]; exact Nat.le_refl _
    · have := ih a (by omega) hD
      by_cases q : (if D.testBit k = true then grc f D (f k) N else 0) ≤ mmr f D N k
      · rw [if_pos q]; exact this
      · rw [if_neg q]; omega
theorem mmr_le (f : Nat → Nat) (D N B : Nat) (hB : ∀ a, D.testBit a = true → grc f D (f a) N ≤ B) : ∀ k, mmr f D N k ≤ B := by
  intro k
  induction k with
  | zero => exact Nat.zero_le _
  | succ k ih =>
    unfold mmr
    by_cases q : (if D.testBit k = true then grc f D (f k) N else 0) ≤ mmr f D N k
    · rw [if_pos q]; exact ih
    · rw [if_neg q]
      by_cases c : D.testBit k = true
      · rw [if_pos c]; exact hB k c
      · rw [if_neg c]; exact Nat.zero_le _
theorem grc_ext {f : Nat → Nat} {D v n : Nat} (hD : D < 2 ^ n) : ∀ N, n ≤ N → grc f D v N = grc f D v n := by
  intro N
  induction N with
  | zero => intro h; rw [show n = 0 by omega]
  | succ N ih =>
    intro h
    by_cases e : n = N + 1
    · rw [e]
    · have : grc f D v (N + 1) = grc f D v N + (if (D.testBit N && decide (f N = v)) = true then 1 else 0) := rfl
      have z : D.testBit N = false := Nat.testBit_lt_two_pow (Nat.lt_of_lt_of_le hD (Nat.pow_le_pow_right (by decide) (by omega)))
      rw [this, ih (by omega), z]; rfl
theorem ggr_mmr {f : Nat → Nat} {D n : Nat} (hn : n ≤ 8) (hD : D < 2 ^ n) : ggr f D n = mmr f D 8 8 := by
  have hb : ∀ a, D.testBit a = true → a < n := fun a ha => by
    rcases Nat.lt_or_ge a n with q | q
    · exact q
    · have : D.testBit a = false := Nat.testBit_lt_two_pow (Nat.lt_of_lt_of_le hD (Nat.pow_le_pow_right (by decide) q))
      rw [this] at ha; cases ha
  refine Nat.le_antisymm (ggr_le f D n _ (fun a ha hd => ?_) n (Nat.le_refl _)) (mmr_le f D 8 _ (fun a hd => ?_) 8)
  · rw [← grc_ext hD 8 hn]; exact mmr_ge f D 8 8 a (by omega) hd
  · rw [grc_ext hD 8 hn]; exact ggr_ge f D n _
theorem grc_le (f : Nat → Nat) (D v : Nat) (k : Nat) : grc f D v k ≤ k := fb_ct_le _ _
theorem ggr_b (f : Nat → Nat) (D : Nat) : ∀ k, ggr f D k ≤ k := fun k => ggr_le f D k k (fun a _ _ => grc_le _ _ _ _) k (Nat.le_refl _)
theorem s_group {s d : Nat → Nat} {y D : Nat} {c_this_told_picture : Nat → Int32} {c_this_told_head : Nat → Int32} {c_this_told_hitCount : Nat → Int32} {c_this_told_hitPlace : Nat → Int32} {c_this_living : Nat → Int32} {c_this_tally : Nat → Int32} {post : Int32 → ((Nat → Int32) × (Nat → Int32)) → Prop} (hh : Hd s c_this_told_head) (hp : PicOk d c_this_told_picture) (hH : ClsH s c_this_told_hitCount c_this_told_hitPlace) (hy : y < 16) (hD : D < 256) (h : ∀ u, post (nI (ggr (fD s d y) D (s 0))) u) : wp_X3_greatestGroup (nI y) (nI D) c_this_told_picture c_this_told_head c_this_told_hitCount c_this_told_hitPlace c_this_living c_this_tally post := by
  have H := hh.1
  have a0 := H.1
  unfold wp_X3_greatestGroup
  refine s_fill (by decide) (fun t ht _ => ?_)
  have key : ∀ (m k : Nat) (l t : Nat → Int32), k ≤ s 0 → s 0 - k < m → (∀ v, v < 9 → t v = nI (grc (fD s d y) D v k)) → wq_X3_greatestGroup_13 c_this_told_picture c_this_told_head c_this_told_hitCount c_this_told_hitPlace (nI y) (nI D) post (fun e30 d31 d32 => post e30 (d31, d32)) m (nI (ggr (fD s d y) D k)) (nI k) l t := by
    intro m
    induction m with
    | zero => intro k l t g1 g2; omega
    | succ m ih =>
      intro k l t g1 g2 hI
      unfold wq_X3_greatestGroup_13
      rw [hh.at 0 (by omega) (by omega), nI_leI (by omega) (by omega)]
      refine ⟨fun q => ?_, fun q => ?_⟩
      · have e : k = s 0 := by omega
        subst e; exact h _
      · rw [forall_eq, forall_eq, show (31 : Int32) = nI 31 from rfl, q_shr (by omega) (by omega), show (1 : Int32) = nI 1 from rfl, q_and1, q_bit]
        have gs : ∀ v, grc (fD s d y) D v (k + 1) = grc (fD s d y) D v k + (if (D.testBit k && decide (fD s d y k = v)) = true then 1 else 0) := fun v => rfl
        by_cases c : D.testBit k = true
        · refine yes2 c (s_letDie (by omega) (fun l hL => ?_))
          rw [forall_eq, hh.at 5 (by omega) (by omega)]
          have hfw : fD s d y k ≤ 8 := fw_le (s := s) H.2.2.2.2.2.2.2.1
          refine s_fewestMissed hh hH hL hy H.2.2.2.2.2.1.2 (hp y hy).1 (hp y hy).2 ?_
          show vp_in (nI (fD s d y k)) 9 ∧ _
          refine ⟨vp_in_nI (by omega) (by omega), ?_⟩
          rw [show fw s (alD k) (s 5) (d y) y = fD s d y k from rfl, nI_clamp (by omega)]
          rw [forall_eq, forall_eq, hI _ (by omega), nI_add]
          refine ⟨vp_in_nI (by omega) (by omega), vp_in_nI (by omega) (by omega), ?_⟩
          have b1 := ggr_b (fD s d y) D k
          have b2 := grc_le (fD s d y) D (fD s d y k) k
          rw [forall_eq, pk_us, forall_eq, q_max (by omega) (by omega), forall_eq, nI_add]
          have e1 : grc (fD s d y) D (fD s d y k) (k + 1) = grc (fD s d y) D (fD s d y k) k + 1 := by
            rw [gs, c, decide_eq_true rfl]; rfl
          have st := ih (k + 1) l (upd t (fD s d y k) (nI (grc (fD s d y) D (fD s d y k) k + 1))) (by omega) (by omega) (fun v hv => by
            by_cases e : v = fD s d y k
            · rw [e, pk_us, e1]
            · rw [pk_un e, hI v hv, gs, decide_eq_false (fun q => e q.symm), Bool.and_false]; rfl)
          unfold ggr at st
          rw [if_pos c, e1] at st
          exact st
        · refine no2 c ?_
          rw [forall_eq, nI_add]
          have st := ih (k + 1) l t (by omega) (by omega) (fun v hv => by
            rw [hI v hv, gs, if_neg (by rw [Bool.and_eq_true]; exact fun q => c q.1)]; rfl)
          unfold ggr at st
          rw [if_neg c] at st
          exact st
  exact ⟨s 0 + 1, key (s 0 + 1) 0 _ t (by omega) (by omega) (fun v hv => ht v hv)⟩
def aAsk (s d : Nat → Nat) (sn : Nat) (sl sm : Nat → Nat) : Nat := bi (fun y => ggr (fD s d y) (bts (deP s d sn sl sm) (s 0)) (s 0)) (fun _ => 0) 16
theorem s_ask {s d : Nat → Nat} {sn : Nat} {sl sm : Nat → Nat} {f_this_seenSize : Int32} {c_this_told_picture : Nat → Int32} {c_this_told_head : Nat → Int32} {c_this_told_hitCount : Nat → Int32} {c_this_told_hitPlace : Nat → Int32} {c_this_living : Nat → Int32} {c_this_seenLine : Nat → Int32} {c_this_seenMany : Nat → Int32} {c_this_tally : Nat → Int32} {post : Int32 → ((Nat → Int32) × (Nat → Int32)) → Prop} (hh : Hd s c_this_told_head) (hp : PicOk d c_this_told_picture) (hH : ClsH s c_this_told_hitCount c_this_told_hitPlace) (S : SeenOk sn sl sm f_this_seenSize c_this_seenLine c_this_seenMany) (h : ∀ u, post (nI (aAsk s d sn sl sm)) u) : wp_X3_ask f_this_seenSize c_this_told_picture c_this_told_head c_this_told_hitCount c_this_told_hitPlace c_this_living c_this_seenLine c_this_seenMany c_this_tally post := by
  have H := hh.1
  have a0 := H.1
  unfold wp_X3_ask
  refine s_fittingDeads hh hp hH S (fun l => ?_)
  have hD : bts (deP s d sn sl sm) (s 0) < 256 := Nat.lt_of_lt_of_le (bts_lt _ _) (show 2 ^ s 0 ≤ 2 ^ 8 from Nat.pow_le_pow_right (by decide) a0.2)
  have hM : ∀ y, ggr (fD s d y) (bts (deP s d sn sl sm) (s 0)) (s 0) ≤ 8 := fun y => Nat.le_trans (ggr_b _ _ _) a0.2
  have key : ∀ (m k : Nat) (x2 x3 : Int32) (l t : Nat → Int32), k ≤ 16 → 16 - k < m → (k = 0 → x2 = 0 ∧ x3 = 2147483647) → (0 < k → x2 = nI (bi (fun y => ggr (fD s d y) (bts (deP s d sn sl sm) (s 0)) (s 0)) (fun _ => 0) k) ∧ x3 = nI (ggr (fD s d (bi (fun y => ggr (fD s d y) (bts (deP s d sn sl sm) (s 0)) (s 0)) (fun _ => 0) k)) (bts (deP s d sn sl sm) (s 0)) (s 0))) → wq_X3_ask_13 f_this_seenSize c_this_told_picture c_this_told_head c_this_told_hitCount c_this_told_hitPlace c_this_seenLine c_this_seenMany (nI (bts (deP s d sn sl sm) (s 0))) post (fun e11 d12 d13 => post e11 (d12, d13)) m x2 x3 (nI k) l t := by
    intro m
    induction m with
    | zero => intro k x2 x3 l t g1 g2; omega
    | succ m ih =>
      intro k x2 x3 l t g1 g2 h0 h1
      unfold wq_X3_ask_13
      rw [show (16 : Int32) = nI 16 from rfl, nI_leI (by omega) (by omega)]
      refine ⟨fun q => ?_, fun q => ?_⟩
      · have e : k = 16 := by omega
        subst e
        rw [(h1 (by omega)).1]; exact h _
      · refine s_group hh hp hH (by omega) hD (fun u => ?_)
        rw [forall_eq, forall_eq, nI_1]
        have b1 := hM k
        by_cases k0 : k = 0
        · refine no1 ?_ (ih (k + 1) _ _ _ _ (by omega) (by omega) (fun q => by omega) (fun _ => ?_))
          · rw [(h0 k0).2]
            exact fun q => absurd ((nI_leI (a := 2147483647) (by omega) (by omega)).mp q) (by omega)
          · rw [bi, if_pos k0, k0]; exact ⟨rfl, rfl⟩
        · obtain ⟨f1, f2⟩ := h1 (by omega)
          have b2 := hM (bi (fun y => ggr (fD s d y) (bts (deP s d sn sl sm) (s 0)) (s 0)) (fun _ => 0) k)
          rw [f1, f2, nI_leI (by omega) (by omega)]
          refine ⟨fun c => ih (k + 1) _ _ _ _ (by omega) (by omega) (fun q => by omega) (fun _ => ?_), fun c => ih (k + 1) _ _ _ _ (by omega) (by omega) (fun q => by omega) (fun _ => ?_)⟩
          · rw [bi, if_neg k0, if_neg (by unfold btr; rw [decide_eq_true_eq]; dsimp only; omega)]; exact ⟨rfl, rfl⟩
          · rw [bi, if_neg k0, if_pos (by unfold btr; rw [decide_eq_true_eq]; dsimp only; omega)]; exact ⟨rfl, rfl⟩
  exact ⟨17, key 17 0 _ _ _ _ (by omega) (by omega) (fun _ => ⟨rfl, rfl⟩) (fun q => by omega)⟩
theorem r_ask_pair {s d : Nat → Nat} {y D a : Nat} {f_this_events : Int32} {f_this_seens : Int32} {c_this_told : Nat → Int32} {c_this_head : Nat → Int32} {c_this_eventKind : Nat → Int32} {c_this_eventAt : Nat → Int32} {c_this_eventNozzle : Nat → Int32} {c_this_seenLine : Nat → Int32} {c_this_seenMany : Nat → Int32} {x2 : Int32} {x3 : Int32} {x5 : Int32} {f_this_notEvents : Int32} {f_this_deadNow : Int32} {f_this_allMissed : Int32} {f_this_allWanted : Int32} {f_this_allPrinted : Int32} {c_this_dots : Nat → Int32} {c_this_now : Nat → Int32} {c_this_hitMany : Nat → Int32} {c_this_hitPass : Nat → Int32} {c_this_hitNozzle : Nat → Int32} {c_this_hitPrints : Nat → Int32} {c_this_canMany : Nat → Int32} {c_this_printedBy : Nat → Int32} {c_this_missing : Nat → Int32} {c_this_prints : Nat → Int32} {c_this_gutter : Nat → Int32} {c_this_missedBy : Nat → Int32} {post : Int32 → (Int32 × Int32 × Int32 × Int32 × Int32 × (Nat → Int32) × (Nat → Int32) × (Nat → Int32) × (Nat → Int32) × (Nat → Int32) × (Nat → Int32) × (Nat → Int32) × (Nat → Int32) × (Nat → Int32) × (Nat → Int32) × (Nat → Int32) × (Nat → Int32)) → Prop} {Ke_108 : Int32 → Prop} (hn : s 0 ≤ 8) (hD : D < 2 ^ s 0) (hy : y < 16) (ha : a < 8) (hmb : ∀ j, j < s 0 → c_this_missedBy (16 * j + y) = nI (fD s d y j)) (hf8 : ∀ j, fD s d y j ≤ 8) (hK : Ke_108 (nI (if D.testBit a = true then grc (fD s d y) D (fD s d y a) 8 else 0))) : ∀ (m k : Nat), k ≤ 8 → 8 - k < m → wq_X4_askOf_38 f_this_events f_this_seens c_this_told c_this_head c_this_eventKind c_this_eventAt c_this_eventNozzle c_this_seenLine c_this_seenMany (nI D) x2 x3 (nI y) x5 (nI a) f_this_notEvents f_this_deadNow f_this_allMissed f_this_allWanted f_this_allPrinted c_this_dots c_this_now c_this_hitMany c_this_hitPass c_this_hitNozzle c_this_hitPrints c_this_canMany c_this_printedBy c_this_missing c_this_prints c_this_gutter c_this_missedBy post Ke_108 m (nI (if D.testBit a = true then grc (fD s d y) D (fD s d y a) k else 0)) (nI k) := by
  have hD8 : D < 2 ^ 8 := Nat.lt_of_lt_of_le hD (Nat.pow_le_pow_right (by decide) hn)
  have hb : ∀ b, D.testBit b = true → b < s 0 := fun b hb => by
    rcases Nat.lt_or_ge b (s 0) with q | q
    · exact q
    · have : D.testBit b = false := Nat.testBit_lt_two_pow (Nat.lt_of_lt_of_le hD (Nat.pow_le_pow_right (by decide) q))
      rw [this] at hb; cases hb
  intro m
  induction m with
  | zero => intro k g1 g2; omega
  | succ m ih =>
    intro k g1 g2
    unfold wq_X4_askOf_38
    rw [show (8 : Int32) = nI 8 from rfl, nI_leI (by omega) (by omega)]
    refine ⟨fun q => ?_, fun q => ?_⟩
    · have e : k = 8 := by omega
      subst e; exact hK
    · have st := ih (k + 1) (by omega) (by omega)
      have gs : grc (fD s d y) D (fD s d y a) (k + 1) = grc (fD s d y) D (fD s d y a) k + (if (D.testBit k && decide (fD s d y k = fD s d y a)) = true then 1 else 0) := rfl
      refine r_isIn (by omega) (by omega) ?_
      rw [b01_0]
      simp only [forall_eq]
      rw [nI_1, Int32.add_zero]
      by_cases ca : D.testBit a = true
      · rw [if_pos ca] at st ⊢
        refine no1 (by rw [ca]; decide) (r_isIn (by omega) (by omega) ?_)
        rw [b01_0]
        by_cases ck : D.testBit k = true
        · refine no1 (by rw [ck]; decide) ?_
          have h1 := hb a ca
          have h2 := hb k ck
          rw [show (16 : Int32) = nI 16 from rfl, pk_mul, nI_add, nI_clamp (by omega), hmb a h1]
          refine ⟨vp_in_nI (by omega) (by omega), ?_⟩
          rw [pk_mul, nI_add, nI_clamp (by omega), hmb k h2]
          refine ⟨vp_in_nI (by omega) (by omega), ?_⟩
          have b1 := hf8 a
          have b2 := hf8 k
          rw [nI_eq (by omega) (by omega), show (1 : Int32) = nI 1 from rfl, nI_add]
          by_cases e : fD s d y a = fD s d y k
          · refine yes2 e ?_
            rw [gs, ck, decide_eq_true e.symm, Bool.true_and, if_pos rfl] at st
            exact st
          · refine no2 e ?_
            rw [gs, decide_eq_false (fun q => e q.symm), Bool.and_false, if_neg (by decide)] at st
            exact st
        · refine yes1 (by cases e : D.testBit k with | false => rfl | true => exact absurd e ck) ?_
          rw [gs, if_neg (by rw [Bool.and_eq_true]; exact fun q => ck q.1)] at st
          exact st
      · rw [if_neg ca] at st ⊢
        exact yes1 (by cases e : D.testBit a with | false => rfl | true => exact absurd e ca) st
theorem r_ask_line {s d : Nat → Nat} {y D : Nat} {f_this_events : Int32} {f_this_seens : Int32} {c_this_told : Nat → Int32} {c_this_head : Nat → Int32} {c_this_eventKind : Nat → Int32} {c_this_eventAt : Nat → Int32} {c_this_eventNozzle : Nat → Int32} {c_this_seenLine : Nat → Int32} {c_this_seenMany : Nat → Int32} {x2 : Int32} {x3 : Int32} {f_this_notEvents : Int32} {f_this_deadNow : Int32} {f_this_allMissed : Int32} {f_this_allWanted : Int32} {f_this_allPrinted : Int32} {c_this_dots : Nat → Int32} {c_this_now : Nat → Int32} {c_this_hitMany : Nat → Int32} {c_this_hitPass : Nat → Int32} {c_this_hitNozzle : Nat → Int32} {c_this_hitPrints : Nat → Int32} {c_this_canMany : Nat → Int32} {c_this_printedBy : Nat → Int32} {c_this_missing : Nat → Int32} {c_this_prints : Nat → Int32} {c_this_gutter : Nat → Int32} {c_this_missedBy : Nat → Int32} {post : Int32 → (Int32 × Int32 × Int32 × Int32 × Int32 × (Nat → Int32) × (Nat → Int32) × (Nat → Int32) × (Nat → Int32) × (Nat → Int32) × (Nat → Int32) × (Nat → Int32) × (Nat → Int32) × (Nat → Int32) × (Nat → Int32) × (Nat → Int32) × (Nat → Int32)) → Prop} {Ke_130 : Int32 → Prop} (hn : s 0 ≤ 8) (hD : D < 2 ^ s 0) (hy : y < 16) (hmb : ∀ j, j < s 0 → c_this_missedBy (16 * j + y) = nI (fD s d y j)) (hf8 : ∀ j, fD s d y j ≤ 8) (hK : Ke_130 (nI (ggr (fD s d y) D (s 0)))) : ∀ (m k : Nat), k ≤ 8 → 8 - k < m → wq_X4_askOf_25 f_this_events f_this_seens c_this_told c_this_head c_this_eventKind c_this_eventAt c_this_eventNozzle c_this_seenLine c_this_seenMany (nI D) x2 x3 (nI y) f_this_notEvents f_this_deadNow f_this_allMissed f_this_allWanted f_this_allPrinted c_this_dots c_this_now c_this_hitMany c_this_hitPass c_this_hitNozzle c_this_hitPrints c_this_canMany c_this_printedBy c_this_missing c_this_prints c_this_gutter c_this_missedBy post Ke_130 m (nI (mmr (fD s d y) D 8 k)) (nI k) := by
  intro m
  induction m with
  | zero => intro k g1 g2; omega
  | succ m ih =>
    intro k g1 g2
    unfold wq_X4_askOf_25
    rw [show (8 : Int32) = nI 8 from rfl, nI_leI (by omega) (by omega)]
    refine ⟨fun q => ?_, fun q => ?_⟩
    · have e : k = 8 := by omega
      subst e; rw [← ggr_mmr hn hD]; exact hK
    · have st := ih (k + 1) (by omega) (by omega)
      have b1 : mmr (fD s d y) D 8 k ≤ 8 := mmr_le _ _ _ _ (fun a _ => grc_le _ _ _ _) k
      have b2 : (if D.testBit k = true then grc (fD s d y) D (fD s d y k) 8 else 0) ≤ 8 := by
        by_cases c : D.testBit k = true
        · rw [if_pos c]; exact grc_le _ _ _ _
        · rw [if_neg c]; omega
      have p := r_ask_pair (s := s) (d := d) (y := y) (D := D) (a := k) (post := post) (f_this_events := f_this_events) (f_this_seens := f_this_seens) (c_this_told := c_this_told) (c_this_head := c_this_head) (c_this_eventKind := c_this_eventKind) (c_this_eventAt := c_this_eventAt) (c_this_eventNozzle := c_this_eventNozzle) (c_this_seenLine := c_this_seenLine) (c_this_seenMany := c_this_seenMany) (x2 := x2) (x3 := x3) (x5 := nI (mmr (fD s d y) D 8 k)) (f_this_notEvents := f_this_notEvents) (f_this_deadNow := f_this_deadNow) (f_this_allMissed := f_this_allMissed) (f_this_allWanted := f_this_allWanted) (f_this_allPrinted := f_this_allPrinted) (c_this_dots := c_this_dots) (c_this_now := c_this_now) (c_this_hitMany := c_this_hitMany) (c_this_hitPass := c_this_hitPass) (c_this_hitNozzle := c_this_hitNozzle) (c_this_hitPrints := c_this_hitPrints) (c_this_canMany := c_this_canMany) (c_this_printedBy := c_this_printedBy) (c_this_missing := c_this_missing) (c_this_prints := c_this_prints) (c_this_gutter := c_this_gutter) (Ke_108 := fun (e63 : Int32) => ((e63 ≤ nI (mmr (fD s d y) D 8 k) → ∀ v65 : Int32, v65 = nI k + 1 → wq_X4_askOf_25 f_this_events f_this_seens c_this_told c_this_head c_this_eventKind c_this_eventAt c_this_eventNozzle c_this_seenLine c_this_seenMany (nI D) x2 x3 (nI y) f_this_notEvents f_this_deadNow f_this_allMissed f_this_allWanted f_this_allPrinted c_this_dots c_this_now c_this_hitMany c_this_hitPass c_this_hitNozzle c_this_hitPrints c_this_canMany c_this_printedBy c_this_missing c_this_prints c_this_gutter c_this_missedBy post Ke_130 m (nI (mmr (fD s d y) D 8 k)) v65) ∧ (¬ e63 ≤ nI (mmr (fD s d y) D 8 k) → ∀ v67 : Int32, v67 = nI k + 1 → wq_X4_askOf_25 f_this_events f_this_seens c_this_told c_this_head c_this_eventKind c_this_eventAt c_this_eventNozzle c_this_seenLine c_this_seenMany (nI D) x2 x3 (nI y) f_this_notEvents f_this_deadNow f_this_allMissed f_this_allWanted f_this_allPrinted c_this_dots c_this_now c_this_hitMany c_this_hitPass c_this_hitNozzle c_this_hitPrints c_this_canMany c_this_printedBy c_this_missing c_this_prints c_this_gutter c_this_missedBy post Ke_130 m e63 v67))) hn hD hy (by omega) hmb hf8 (by
        rw [forall_eq, forall_eq, nI_1, nI_leI (by omega) (by omega)]
        unfold mmr at st
        by_cases c : (if D.testBit k = true then grc (fD s d y) D (fD s d y k) 8 else 0) ≤ mmr (fD s d y) D 8 k
        · rw [if_pos c] at st; exact yes1 c st
        · rw [if_neg c] at st; exact no1 c st) 9 0 (by omega) (by omega)
      have z : (if D.testBit k = true then grc (fD s d y) D (fD s d y k) 0 else 0) = 0 := by
        by_cases c : D.testBit k = true
        · rw [if_pos c]; rfl
        · rw [if_neg c]
      rw [z] at p
      exact ⟨9, p⟩
theorem r_askOf {d s : Nat → Nat} {n : Nat} {ek ea en : Nat → Nat} {sn : Nat} {sl sm : Nat → Nat} {f_this_events : Int32} {f_this_notEvents : Int32} {f_this_deadNow : Int32} {f_this_allMissed : Int32} {f_this_allWanted : Int32} {f_this_allPrinted : Int32} {f_this_seens : Int32} {c_this_told : Nat → Int32} {c_this_head : Nat → Int32} {c_this_eventKind : Nat → Int32} {c_this_eventAt : Nat → Int32} {c_this_eventNozzle : Nat → Int32} {c_this_dots : Nat → Int32} {c_this_now : Nat → Int32} {c_this_hitMany : Nat → Int32} {c_this_hitPass : Nat → Int32} {c_this_hitNozzle : Nat → Int32} {c_this_hitPrints : Nat → Int32} {c_this_canMany : Nat → Int32} {c_this_printedBy : Nat → Int32} {c_this_missing : Nat → Int32} {c_this_prints : Nat → Int32} {c_this_gutter : Nat → Int32} {c_this_seenLine : Nat → Int32} {c_this_seenMany : Nat → Int32} {c_this_missedBy : Nat → Int32} {post : Int32 → (Int32 × Int32 × Int32 × Int32 × Int32 × (Nat → Int32) × (Nat → Int32) × (Nat → Int32) × (Nat → Int32) × (Nat → Int32) × (Nat → Int32) × (Nat → Int32) × (Nat → Int32) × (Nat → Int32) × (Nat → Int32) × (Nat → Int32) × (Nat → Int32)) → Prop} (I : RefI d s n ek ea en c_this_told c_this_head f_this_events c_this_eventKind c_this_eventAt c_this_eventNozzle) (S : SeenOk sn sl sm f_this_seens c_this_seenLine c_this_seenMany) (h : ∀ u, post (nI (aAsk s d sn sl sm)) u) : wp_X4_askOf f_this_events f_this_notEvents f_this_deadNow f_this_allMissed f_this_allWanted f_this_allPrinted f_this_seens c_this_told c_this_head c_this_eventKind c_this_eventAt c_this_eventNozzle c_this_dots c_this_now c_this_hitMany c_this_hitPass c_this_hitNozzle c_this_hitPrints c_this_canMany c_this_printedBy c_this_missing c_this_prints c_this_gutter c_this_seenLine c_this_seenMany c_this_missedBy post := by
  have H := I.2.1.1
  have a0 := H.1
  unfold wp_X4_askOf
  refine r_deadsBy I S (fun u hu => ?_)
  obtain ⟨e1, e2, e3, e4, e5, f1, f2, f3, f4, f5, f6, f7, f8, f9, f10, f11, f12⟩ := u
  dsimp only at hu ⊢
  have hD : bts (deP s d sn sl sm) (s 0) < 2 ^ s 0 := bts_lt _ _
  have hM : ∀ y, ggr (fD s d y) (bts (deP s d sn sl sm) (s 0)) (s 0) ≤ 8 := fun y => Nat.le_trans (ggr_b _ _ _) a0.2
  have h8 : ∀ y j, fD s d y j ≤ 8 := fun y j => fw_le (s := s) H.2.2.2.2.2.2.2.1
  have key : ∀ (Ke : Int32 → Prop), Ke (nI (aAsk s d sn sl sm)) → ∀ (m k : Nat) (x2 x3 : Int32), k ≤ 16 → 16 - k < m → (k = 0 → x2 = -1) → (0 < k → x2 = nI (bi (fun y => ggr (fD s d y) (bts (deP s d sn sl sm) (s 0)) (s 0)) (fun _ => 0) k) ∧ x3 = nI (ggr (fD s d (bi (fun y => ggr (fD s d y) (bts (deP s d sn sl sm) (s 0)) (s 0)) (fun _ => 0) k)) (bts (deP s d sn sl sm) (s 0)) (s 0))) → wq_X4_askOf_12 f_this_events f_this_seens c_this_told c_this_head c_this_eventKind c_this_eventAt c_this_eventNozzle c_this_seenLine c_this_seenMany (nI (bts (deP s d sn sl sm) (s 0))) e1 e2 e3 e4 e5 f1 f2 f3 f4 f5 f6 f7 f8 f9 f10 f11 f12 post Ke m x2 x3 (nI k) := by
    intro Ke hK m
    induction m with
    | zero => intro k x2 x3 g1 g2; omega
    | succ m ih =>
      intro k x2 x3 g1 g2 h0 h1
      unfold wq_X4_askOf_12
      rw [show (16 : Int32) = nI 16 from rfl, nI_leI (by omega) (by omega)]
      refine ⟨fun q => ?_, fun q => ?_⟩
      · have e : k = 16 := by omega
        subst e
        rw [(h1 (by omega)).1]; exact hK
      · refine ⟨9, r_ask_line a0.2 hD (by omega) (fun j hj => hu j hj k (by omega)) (h8 k) ?_ 9 0 (by omega) (by omega)⟩
        have b1 := hM k
        unfold wq_X4_askOf_159
        simp only [forall_eq]
        rw [nI_1]
        by_cases k0 : k = 0
        · refine yes1 (h0 k0) (no1 (by decide) (no1 (by decide) ?_))
          refine ih (k + 1) _ _ (by omega) (by omega) (fun q => by omega) (fun _ => ?_)
          rw [bi, if_pos k0, k0]; exact ⟨rfl, rfl⟩
        · obtain ⟨w1, w2⟩ := h1 (by omega)
          have b2 := hM (bi (fun y => ggr (fD s d y) (bts (deP s d sn sl sm) (s 0)) (s 0)) (fun _ => 0) k)
          have b3 := bi_lt (fun y => ggr (fD s d y) (bts (deP s d sn sl sm) (s 0)) (s 0)) (fun _ => 0) k (by omega)
          rw [w1, w2, nI_leI (by omega) (by omega)]
          refine no1 (q_m1 _ (by omega)) ⟨fun c => yes1 trivial (yes1 trivial (ih (k + 1) _ _ (by omega) (by omega) (fun q => by omega) (fun _ => ?_))), fun c => no1 (by decide) (no1 (by decide) (ih (k + 1) _ _ (by omega) (by omega) (fun q => by omega) (fun _ => ?_)))⟩
          · rw [bi, if_neg k0, if_neg (by unfold btr; rw [decide_eq_true_eq]; dsimp only; omega)]; exact ⟨rfl, rfl⟩
          · rw [bi, if_neg k0, if_pos (by unfold btr; rw [decide_eq_true_eq]; dsimp only; omega)]; exact ⟨rfl, rfl⟩
  exact ⟨17, key _ (h _) 17 0 _ _ (by omega) (by omega) (fun _ => rfl) (fun q => by omega)⟩
theorem r_ask {d s : Nat → Nat} {n : Nat} {ek ea en : Nat → Nat} {sn : Nat} {sl sm : Nat → Nat} {f_this_events : Int32} {f_this_notEvents : Int32} {f_this_deadNow : Int32} {f_this_allMissed : Int32} {f_this_allWanted : Int32} {f_this_allPrinted : Int32} {f_this_seens : Int32} {c_this_told : Nat → Int32} {c_this_head : Nat → Int32} {c_this_eventKind : Nat → Int32} {c_this_eventAt : Nat → Int32} {c_this_eventNozzle : Nat → Int32} {c_this_dots : Nat → Int32} {c_this_now : Nat → Int32} {c_this_hitMany : Nat → Int32} {c_this_hitPass : Nat → Int32} {c_this_hitNozzle : Nat → Int32} {c_this_hitPrints : Nat → Int32} {c_this_canMany : Nat → Int32} {c_this_printedBy : Nat → Int32} {c_this_missing : Nat → Int32} {c_this_prints : Nat → Int32} {c_this_gutter : Nat → Int32} {c_this_seenLine : Nat → Int32} {c_this_seenMany : Nat → Int32} {c_this_missedBy : Nat → Int32} {post : Int32 → (Int32 × Int32 × Int32 × Int32 × Int32 × (Nat → Int32) × (Nat → Int32) × (Nat → Int32) × (Nat → Int32) × (Nat → Int32) × (Nat → Int32) × (Nat → Int32) × (Nat → Int32) × (Nat → Int32) × (Nat → Int32) × (Nat → Int32) × (Nat → Int32)) → Prop} (I : RefI d s n ek ea en c_this_told c_this_head f_this_events c_this_eventKind c_this_eventAt c_this_eventNozzle) (S : SeenOk sn sl sm f_this_seens c_this_seenLine c_this_seenMany) (h : ∀ u, post (nI (aAsk s d sn sl sm)) u) : wp_X4_ask f_this_events f_this_notEvents f_this_deadNow f_this_allMissed f_this_allWanted f_this_allPrinted f_this_seens c_this_told c_this_head c_this_eventKind c_this_eventAt c_this_eventNozzle c_this_dots c_this_now c_this_hitMany c_this_hitPass c_this_hitNozzle c_this_hitPrints c_this_canMany c_this_printedBy c_this_missing c_this_prints c_this_gutter c_this_seenLine c_this_seenMany c_this_missedBy post := r_askOf I S (fun u => h _)
