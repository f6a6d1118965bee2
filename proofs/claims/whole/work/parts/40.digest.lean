/-! digest -/
def mx (h v : Int64) : Int64 := 31 * h + v
def fo (g : Nat → Int64 → Int64) (h : Int64) : Nat → Int64
  | 0 => h
  | k + 1 => g k (fo g h k)
theorem fo_s (g : Nat → Int64 → Int64) (h : Int64) (k : Nat) : fo g h (k + 1) = g k (fo g h k) := rfl
noncomputable def gC (d s : Nat → Nat) (n : Nat) (ek ea en : Nat → Nat) (sn : Nat) (fi : Int32) (k : Nat) (h : Int64) : Int64 := mx h (aCount d s n ek ea en sn fi (nI k)).toInt64
def gH (s : Nat → Nat) (y i : Nat) (h : Int64) : Int64 := mx (mx h (aHit s y i 0).toInt64) (aHit s y i 1).toInt64
def gB (s : Nat → Nat) (al : Nat → Nat → Bool) (d : Nat → Nat) (y x : Nat) (h : Int64) : Int64 := mx (mx h (aBy s al d y x 0).toInt64) (aBy s al d y x 1).toInt64
def gB8 (s : Nat → Nat) (al : Nat → Nat → Bool) (d : Nat → Nat) (y x : Nat) (h : Int64) : Int64 := if x = 0 then gB s al d y x h else if x = 3 then gB s al d y x h else if x = 7 then gB s al d y x h else h
def gL (s : Nat → Nat) (al : Nat → Nat → Bool) (d : Nat → Nat) (y : Nat) (h : Int64) : Int64 := mx (mx (gB s al d y 7 (gB s al d y 3 (gB s al d y 0 (fo (gH s y) (mx h (aHits s y).toInt64) 3)))) (aMissed s al d y).toInt64) (aDone s al d y).toInt64
theorem gB8_8 (s : Nat → Nat) (al : Nat → Nat → Bool) (d : Nat → Nat) (y : Nat) (h : Int64) : fo (gB8 s al d y) h 8 = gB s al d y 7 (gB s al d y 3 (gB s al d y 0 h)) := by
  have ye : ∀ x h, (x = 0 ∨ x = 3 ∨ x = 7) → gB8 s al d y x h = gB s al d y x h := fun x h hx => by
    unfold gB8
    rcases hx with e | e | e
    · rw [if_pos e]
    · rw [if_neg (by omega), if_pos e]
    · rw [if_neg (by omega), if_neg (by omega), if_pos e]
  have n : ∀ x h, ¬ (x = 0 ∨ x = 3 ∨ x = 7) → gB8 s al d y x h = h := fun x h hx => by
    unfold gB8
    rw [if_neg (by omega), if_neg (by omega), if_neg (by omega)]
  rw [fo_s, ye 7 _ (by omega), fo_s, n 6 _ (by omega), fo_s, n 5 _ (by omega), fo_s, n 4 _ (by omega), fo_s, ye 3 _ (by omega), fo_s, n 2 _ (by omega), fo_s, n 1 _ (by omega), fo_s, ye 0 _ (by omega)]
  rfl
noncomputable def gW (s : Nat → Nat) (al : Nat → Nat → Bool) (d : Nat → Nat) (p j w : Nat) (h : Int64) : Int64 := mx h (aPass s al d p j w).toInt64
noncomputable def gJ (s : Nat → Nat) (al : Nat → Nat → Bool) (d : Nat → Nat) (p j : Nat) (h : Int64) : Int64 := fo (gW s al d p j) h 3
noncomputable def gP (s : Nat → Nat) (al : Nat → Nat → Bool) (d : Nat → Nat) (p : Nat) (h : Int64) : Int64 := fo (gJ s al d p) h (s 0)
noncomputable def gD (s : Nat → Nat) (al : Nat → Nat → Bool) (d : Nat → Nat) (j : Nat) (h : Int64) : Int64 := mx h (nI (sDrops s al d j)).toInt64
noncomputable def gS (s : Nat → Nat) (al : Nat → Nat → Bool) (d : Nat → Nat) (w : Nat) (h : Int64) : Int64 := mx h (aSum s al d w).toInt64
def gE (s : Nat → Nat) (w : Nat) (h : Int64) : Int64 := mx h (aEven s w).toInt64
def gT (s : Nat → Nat) (al : Nat → Nat → Bool) (d : Nat → Nat) (b : Nat) (h : Int64) : Int64 := mx (mx h (aBet s al d b 0).toInt64) (aBet s al d b 1).toInt64
theorem s_mixed {x0 x2 : Int64} {post : Int64 → Unit → Prop} (h : post (mx x0 x2) ()) : wp_X3_mixed x0 x2 post := by
  unfold wp_X3_mixed
  rw [forall_eq]
  exact h
theorem ans_y {c : Prop} [Decidable c] {v : Int32} (h : c) : ans_in c v = v := if_pos h
/-- the class's line -/
theorem s_hitL {s : Nat → Nat} {y i w : Nat} {hc hp : Nat → Int32} (H : Hok s) (hH : ClsH s hc hp) (hy : y < 16) (hi : i < 12) (hw : w ≤ 1) {post : Int32 → Unit → Prop} (h : post (aHit s y i w) ()) : wp_X3_hit (nI y) (nI i) (nI w) hc hp post := s_hit H hH (by
  rw [ans_y ⟨in_nI (n := 15) (by omega) (by decide), in_nI (n := 11) (by omega) (by decide), in_nI (n := 1) hw (by decide)⟩, nI_clamp (by omega), nI_clamp (by omega), nI_clamp (by omega)]; exact h)
theorem s_mixedLine {s d : Nat → Nat} {al : Nat → Nat → Bool} {y : Nat} {x1 : Int64} {c_this_told_picture : Nat → Int32} {c_this_told_head : Nat → Int32} {c_this_told_hitCount : Nat → Int32} {c_this_told_hitPlace : Nat → Int32} {c_this_told_printingHit : Nat → Int32} {c_this_told_missedDots : Nat → Int32} {c_this_told_lastPass : Nat → Int32} {post : Int64 → Unit → Prop} (hh : Hd s c_this_told_head) (hpic : PicOk d c_this_told_picture) (hH : ClsH s c_this_told_hitCount c_this_told_hitPlace) (hph : ∀ y, y < 16 → ∀ x, x < 8 → c_this_told_printingHit (8 * y + x) = oI ((stk s al d 16 y).2.1 x)) (hmd : ∀ y, y < 16 → c_this_told_missedDots y = nI (stk s al d 16 y).2.2.1) (hlp : ∀ y, y < 16 → ∃ b, LastOf (hs s y) (stk s al d 16 y).1 b ∧ c_this_told_lastPass y = oI b) (hy : y < 16) (h : post (gL s al d y x1) ()) : wp_X3_mixedLine x1 (nI y) c_this_told_picture c_this_told_head c_this_told_hitCount c_this_told_hitPlace c_this_told_printingHit c_this_told_missedDots c_this_told_lastPass post := by
  have H := hh.1
  have c15 : (0 : Int32) ≤ nI y ∧ nI y ≤ 15 := in_nI (n := 15) (by omega) (by decide)
  unfold wp_X3_mixedLine
  have key : ∀ (Ke : Int64 → Prop) (h0 : Int64), Ke (fo (gH s y) h0 3) → ∀ (m k : Nat), k ≤ 3 → 3 - k < m → wq_X3_mixedLine_15 c_this_told_picture c_this_told_head c_this_told_hitCount c_this_told_hitPlace c_this_told_printingHit c_this_told_missedDots c_this_told_lastPass (nI y) post Ke m (fo (gH s y) h0 k) (nI k) := by
    intro Ke h0 hK m
    induction m with
    | zero => intro k g1 g2; omega
    | succ m ih =>
      intro k g1 g2
      unfold wq_X3_mixedLine_15
      rw [show ((2 : Int32) < nI k) ↔ 2 < k from nI_ltI (a := 2) (by omega) (by omega)]
      refine ⟨fun q => ?_, fun q => ?_⟩
      · have e : k = 3 := by omega
        subst e; exact hK
      · refine s_hitL (w := 0) H hH hy (by omega) (by omega) ?_
        rw [forall_eq]
        refine s_mixed (s_hitL (w := 1) H hH hy (by omega) (by omega) ?_)
        rw [forall_eq]
        refine s_mixed ?_
        rw [forall_eq, nI_1]
        exact ih (k + 1) (by omega) (by omega)
  refine s_hits hH.1 ?_
  rw [ans_y c15, nI_clamp (by omega), forall_eq]
  refine s_mixed ⟨4, key _ _ ?_ 4 0 (by omega) (by omega)⟩
  have by1 : ∀ (x w : Nat), x < 8 → w ≤ 1 → ∀ (post : Int32 → Unit → Prop), post (aBy s al d y x w) () → wp_X3_by (nI y) (nI x) (nI w) c_this_told_picture c_this_told_head c_this_told_hitCount c_this_told_printingHit post := fun x w hx hw post hq => s_by hh hpic hH hph (by
    rw [ans_y ⟨c15, in_nI (n := 7) (by omega) (by decide), in_nI (n := 1) hw (by decide)⟩, nI_clamp (by omega), nI_clamp (by omega), nI_clamp (by omega)]; exact hq)
  refine by1 0 0 (by omega) (by omega) _ ?_
  rw [forall_eq]
  refine s_mixed (by1 0 1 (by omega) (by omega) _ ?_)
  rw [forall_eq]
  refine s_mixed (by1 3 0 (by omega) (by omega) _ ?_)
  rw [forall_eq]
  refine s_mixed (by1 3 1 (by omega) (by omega) _ ?_)
  rw [forall_eq]
  refine s_mixed (by1 7 0 (by omega) (by omega) _ ?_)
  rw [forall_eq]
  refine s_mixed (by1 7 1 (by omega) (by omega) _ ?_)
  rw [forall_eq]
  refine s_mixed (s_missed hmd ?_)
  rw [ans_y c15, nI_clamp (by omega), forall_eq]
  refine s_mixed (s_done H hlp ?_)
  rw [ans_y c15, nI_clamp (by omega), forall_eq]
  exact s_mixed h
theorem s_mixedHead {s d : Nat → Nat} {al : Nat → Nat → Bool} {x1 : Int64} {c_this_told_head : Nat → Int32} {c_this_told_living : Nat → Int32} {c_this_told_dotsPrinted : Nat → Int32} {c_this_told_gutter : Nat → Int32} {post : Int64 → Unit → Prop} (hh : Hd s c_this_told_head) (hL : LivOk al c_this_told_living) (hD : DpOk s (stk s al d 16) c_this_told_dotsPrinted) (hG : GutC s al (PDv s (stk s al d 16)) c_this_told_gutter) (h : post (fo (gD s al d) (fo (gP s al d) x1 (s 3)) (s 0)) ()) : wp_X3_mixedHead x1 c_this_told_head c_this_told_living c_this_told_dotsPrinted c_this_told_gutter post := by
  have H := hh.1
  obtain ⟨a0, a1, a2, a3, a4, a5, a6, a7, a8⟩ := id H
  unfold wp_X3_mixedHead
  have k1 : ∀ (p j : Nat), p < s 3 → j < s 0 → ∀ (Ke : Int64 → Prop) (h0 : Int64), Ke (gJ s al d p j h0) → ∀ (m k : Nat), k ≤ 3 → 3 - k < m → wq_X3_mixedHead_39 c_this_told_head c_this_told_living c_this_told_dotsPrinted c_this_told_gutter (nI p) (nI j) post Ke m (fo (gW s al d p j) h0 k) (nI k) := by
    intro p j hp hj Ke h0 hK m
    induction m with
    | zero => intro k g1 g2; omega
    | succ m ih =>
      intro k g1 g2
      unfold wq_X3_mixedHead_39
      rw [show ((2 : Int32) < nI k) ↔ 2 < k from nI_ltI (a := 2) (by omega) (by omega)]
      refine ⟨fun q => ?_, fun q => ?_⟩
      · have e : k = 3 := by omega
        subst e; exact hK
      · refine s_pass3 hh hL hD hG ?_
        rw [ans_y (show ((0 : Int32) ≤ nI p ∧ nI p ≤ nI (s 3 - 1)) ∧ ((0 : Int32) ≤ nI j ∧ nI j ≤ nI (s 0 - 1)) ∧ ((0 : Int32) ≤ nI k ∧ nI k ≤ 2) from ⟨in_nI (by omega) (by omega), in_nI (by omega) (by omega), in_nI (n := 2) (by omega) (by decide)⟩), nI_clamp (by omega), nI_clamp (by omega), nI_clamp (by omega), forall_eq]
        refine s_mixed ?_
        rw [forall_eq, nI_1]
        exact ih (k + 1) (by omega) (by omega)
  have k2 : ∀ (p : Nat), p < s 3 → ∀ (Ke : Int64 → Prop) (h0 : Int64), Ke (gP s al d p h0) → ∀ (m k : Nat), k ≤ s 0 → s 0 - k < m → wq_X3_mixedHead_22 c_this_told_head c_this_told_living c_this_told_dotsPrinted c_this_told_gutter (nI p) post Ke m (fo (gJ s al d p) h0 k) (nI k) := by
    intro p hp Ke h0 hK m
    induction m with
    | zero => intro k g1 g2; omega
    | succ m ih =>
      intro k g1 g2
      unfold wq_X3_mixedHead_22
      rw [hh.at 0 (by omega) (by omega), nI_leI (by omega) (by omega)]
      refine ⟨fun q => ?_, fun q => ?_⟩
      · have e : k = s 0 := by omega
        subst e; exact hK
      · refine ⟨4, k1 p k hp (by omega) _ _ ?_ 4 0 (by omega) (by omega)⟩
        rw [forall_eq, nI_1]
        exact ih (k + 1) (by omega) (by omega)
  have k4 : ∀ (Ke : Int64 → Prop) (h0 : Int64), Ke (fo (gD s al d) h0 (s 0)) → ∀ (m k : Nat), k ≤ s 0 → s 0 - k < m → wq_X3_mixedHead_82 c_this_told_head c_this_told_living c_this_told_dotsPrinted c_this_told_gutter post Ke m (fo (gD s al d) h0 k) (nI k) := by
    intro Ke h0 hK m
    induction m with
    | zero => intro k g1 g2; omega
    | succ m ih =>
      intro k g1 g2
      unfold wq_X3_mixedHead_82
      have e0 := hh.at 0 (by omega) (by omega)
      rw [e0, nI_leI (by omega) (by omega)]
      refine ⟨fun q => ?_, fun q => ?_⟩
      · have e : k = s 0 := by omega
        subst e; exact hK
      · refine s_drops hh hD hG ?_
        rw [ans_y (in_nI (by omega) (by omega)), nI_clamp (by omega), forall_eq]
        refine s_mixed ?_
        rw [forall_eq, nI_1]
        exact ih (k + 1) (by omega) (by omega)
  have k3 : ∀ (Ke : Int64 → Prop) (h0 : Int64), Ke (fo (gP s al d) h0 (s 3)) → ∀ (m k : Nat), k ≤ s 3 → s 3 - k < m → wq_X3_mixedHead_5 c_this_told_head c_this_told_living c_this_told_dotsPrinted c_this_told_gutter post Ke m (fo (gP s al d) h0 k) (nI k) := by
    intro Ke h0 hK m
    induction m with
    | zero => intro k g1 g2; omega
    | succ m ih =>
      intro k g1 g2
      unfold wq_X3_mixedHead_5
      rw [hh.at 3 (by omega) (by omega), nI_leI (by omega) (by omega)]
      refine ⟨fun q => ?_, fun q => ?_⟩
      · have e : k = s 3 := by omega
        subst e; exact hK
      · refine ⟨s 0 + 1, k2 k (by omega) _ _ ?_ (s 0 + 1) 0 (by omega) (by omega)⟩
        rw [forall_eq, nI_1]
        exact ih (k + 1) (by omega) (by omega)
  exact ⟨s 3 + 1, k3 _ _ ⟨s 0 + 1, k4 _ _ h (s 0 + 1) 0 (by omega) (by omega)⟩ (s 3 + 1) 0 (by omega) (by omega)⟩
/-- all of it -/
noncomputable def dgA (d s : Nat → Nat) (n : Nat) (ek ea en : Nat → Nat) (sn : Nat) (fi : Int32) : Int64 := fo (gT s (al0 n ek ea en) d) (fo (gE s) (fo (gS s (al0 n ek ea en) d) (fo (gD s (al0 n ek ea en) d) (fo (gP s (al0 n ek ea en) d) (fo (gL s (al0 n ek ea en) d) (fo (gC d s n ek ea en sn fi) 17 8) 16) (s 3)) (s 0)) 4) 3) 3
noncomputable def aDigest (d s : Nat → Nat) (n : Nat) (ek ea en : Nat → Nat) (sn : Nat) (sl sm : Nat → Nat) (fi : Int32) : Int64 :=
  mx (mx (mx (mx (mx (mx (mx (mx (mx (mx (dgA d s n ek ea en sn fi) (spNum (spR s d n ek ea en)).toInt64) (spAt (spR s d n ek ea en) 0).toInt64) (nI (bts (nvP s d n ek ea en sn sl sm) n)).toInt64) (nI (bts (deP s d sn sl sm) (s 0))).toInt64) (nI (bts (caP s d (al0 n ek ea en) sn sl sm) 9)).toInt64) (nI (aAsk s d sn sl sm)).toInt64) (aCh s d n ek ea en 5 0)) (aCh s d n ek ea en 5 1)) (aTest s (al0 n ek ea en) 7 12 0).toInt64) (aTest s (al0 n ek ea en) 7 12 1).toInt64
theorem dg_sp1 (R : Option (List Nat)) : aSpare R (-1) = spNum R := by unfold aSpare; rw [if_pos (by decide), if_pos rfl]
theorem dg_sp0 (R : Option (List Nat)) : aSpare R 0 = spAt R 0 := by unfold aSpare; rw [if_pos (by decide), if_neg (by decide)]; rfl
theorem dg_w0 (s d : Nat → Nat) (al : Nat → Nat → Bool) (sn : Nat) (sl sm : Nat → Nat) : ans_in ((0 : Int32) ≤ 0 ∧ (0 : Int32) ≤ 1) (aWas s d al sn sl sm (0 : Int32).toNatClampNeg) = nI (bts (deP s d sn sl sm) (s 0)) := by
  rw [ans_y (by decide), show (0 : Int32).toNatClampNeg = 0 from rfl, aWas, if_pos rfl]
theorem dg_w1 (s d : Nat → Nat) (al : Nat → Nat → Bool) (sn : Nat) (sl sm : Nat → Nat) : ans_in ((0 : Int32) ≤ 1 ∧ (1 : Int32) ≤ 1) (aWas s d al sn sl sm (1 : Int32).toNatClampNeg) = nI (bts (caP s d al sn sl sm) 9) := by
  rw [ans_y (by decide), show (1 : Int32).toNatClampNeg = 1 from rfl, aWas, if_neg (by decide)]
theorem dg_c0 (s d : Nat → Nat) (n : Nat) (ek ea en : Nat → Nat) : aChance s d n ek ea en 5 0 = aCh s d n ek ea en 5 0 := by
  unfold aChance; rw [if_pos (by decide), show (5 : Int32).toNatClampNeg = 5 from rfl, show (0 : Int32).toNatClampNeg = 0 from rfl]
theorem dg_c1 (s d : Nat → Nat) (n : Nat) (ek ea en : Nat → Nat) : aChance s d n ek ea en 5 1 = aCh s d n ek ea en 5 1 := by
  unfold aChance; rw [if_pos (by decide), show (5 : Int32).toNatClampNeg = 5 from rfl, show (1 : Int32).toNatClampNeg = 1 from rfl]
theorem dg_t0 (s : Nat → Nat) (al : Nat → Nat → Bool) : aTests s al 7 12 0 = aTest s al 7 12 0 := by
  unfold aTests; rw [ans_y (by decide), show (12 : Int32).toNatClampNeg = 12 from rfl, show (0 : Int32).toNatClampNeg = 0 from rfl]
theorem dg_t1 (s : Nat → Nat) (al : Nat → Nat → Bool) : aTests s al 7 12 1 = aTest s al 7 12 1 := by
  unfold aTests; rw [ans_y (by decide), show (12 : Int32).toNatClampNeg = 12 from rfl, show (1 : Int32).toNatClampNeg = 1 from rfl]
theorem s_dg_k1 {d s : Nat → Nat} {n : Nat} {ek ea en : Nat → Nat} {sn : Nat} {sl sm : Nat → Nat} {h0 : Int64} {f_this_seenSize : Int32} {f_this_latestFinding : Int32} {f_this_told_strayed : Int32} {c_this_told_picture : Nat → Int32} {c_this_told_head : Nat → Int32} {c_this_told_living : Nat → Int32} {c_this_told_hitCount : Nat → Int32} {c_this_told_hitPlace : Nat → Int32} {c_this_told_printingHit : Nat → Int32} {c_this_told_missedDots : Nat → Int32} {c_this_told_firstPass : Nat → Int32} {c_this_told_lastPass : Nat → Int32} {c_this_told_dotsPrinted : Nat → Int32} {c_this_told_gutter : Nat → Int32} {f_this_events_size : Int32} {c_this_events_kinds : Nat → Int32} {c_this_events_passes : Nat → Int32} {c_this_events_nozzles : Nat → Int32} {c_this_seenLine : Nat → Int32} {c_this_seenMany : Nat → Int32} {f_this_trial_strayed : Int32} {c_this_trial_picture : Nat → Int32} {c_this_trial_head : Nat → Int32} {c_this_trial_living : Nat → Int32} {c_this_trial_hitCount : Nat → Int32} {c_this_trial_hitPlace : Nat → Int32} {c_this_trial_printingHit : Nat → Int32} {c_this_trial_missedDots : Nat → Int32} {c_this_trial_firstPass : Nat → Int32} {c_this_trial_lastPass : Nat → Int32} {c_this_trial_dotsPrinted : Nat → Int32} {c_this_trial_gutter : Nat → Int32} {c_this_trial_canColumns : Nat → Int32} {c_this_trial_canCount : Nat → Int32} {c_this_living : Nat → Int32} {c_this_tally : Nat → Int32} {c_this_safeBySize : Nat → Int64} {post : Int64 → (Int32 × (Nat → Int32) × (Nat → Int32) × (Nat → Int32) × (Nat → Int32) × (Nat → Int32) × (Nat → Int32) × (Nat → Int32) × (Nat → Int32) × (Nat → Int32) × (Nat → Int32) × (Nat → Int32) × (Nat → Int32) × (Nat → Int32) × (Nat → Int32) × (Nat → Int32) × (Nat → Int64)) → Prop} {Ke_29 : Int64 → Prop} (T : ClsT d s n ek ea en f_this_told_strayed c_this_told_picture c_this_told_head c_this_told_living c_this_told_hitCount c_this_told_hitPlace c_this_told_printingHit c_this_told_missedDots c_this_told_firstPass c_this_told_lastPass c_this_told_dotsPrinted c_this_told_gutter) (E : ClsE n ek ea en f_this_events_size c_this_events_kinds c_this_events_passes c_this_events_nozzles) (S : SeenOk sn sl sm f_this_seenSize c_this_seenLine c_this_seenMany) (hK : Ke_29 (fo (gC d s n ek ea en sn f_this_latestFinding) h0 8)) : ∀ (m k : Nat), k ≤ 8 → 8 - k < m → wq_X3_digest_6 f_this_seenSize f_this_latestFinding f_this_told_strayed c_this_told_picture c_this_told_head c_this_told_living c_this_told_hitCount c_this_told_hitPlace c_this_told_printingHit c_this_told_missedDots c_this_told_firstPass c_this_told_lastPass c_this_told_dotsPrinted c_this_told_gutter f_this_events_size c_this_events_kinds c_this_events_passes c_this_events_nozzles c_this_seenLine c_this_seenMany f_this_trial_strayed c_this_trial_picture c_this_trial_head c_this_trial_living c_this_trial_hitCount c_this_trial_hitPlace c_this_trial_printingHit c_this_trial_missedDots c_this_trial_firstPass c_this_trial_lastPass c_this_trial_dotsPrinted c_this_trial_gutter c_this_trial_canColumns c_this_trial_canCount c_this_living c_this_tally c_this_safeBySize post Ke_29 m (fo (gC d s n ek ea en sn f_this_latestFinding) h0 k) (nI k) := by
  obtain ⟨t1, t2, t3, t4⟩ := id T
  obtain ⟨p1, p2, p3⟩ := id t4
  obtain ⟨q1, q2, q3, q4, q5, q6⟩ := id p2
  have H := t1.1
  have e2 := E.2
  intro m
  induction m with
  | zero => intro k g1 g2; omega
  | succ m ih =>
    intro k g1 g2
    unfold wq_X3_digest_6
    rw [show ((7 : Int32) < nI k) ↔ 7 < k from nI_ltI (a := 7) (by omega) (by omega)]
    refine ⟨fun q => ?_, fun q => ?_⟩
    · have e : k = 8 := by omega
      subst e; exact hK
    · refine s_count T e2 S.2.1 ?_
      rw [forall_eq]
      refine s_mixed ?_
      rw [forall_eq, nI_1]
      exact ih (k + 1) (by omega) (by omega)
theorem s_dg_k2 {d s : Nat → Nat} {n : Nat} {ek ea en : Nat → Nat} {sn : Nat} {sl sm : Nat → Nat} {h0 : Int64} {f_this_seenSize : Int32} {f_this_latestFinding : Int32} {f_this_told_strayed : Int32} {c_this_told_picture : Nat → Int32} {c_this_told_head : Nat → Int32} {c_this_told_living : Nat → Int32} {c_this_told_hitCount : Nat → Int32} {c_this_told_hitPlace : Nat → Int32} {c_this_told_printingHit : Nat → Int32} {c_this_told_missedDots : Nat → Int32} {c_this_told_firstPass : Nat → Int32} {c_this_told_lastPass : Nat → Int32} {c_this_told_dotsPrinted : Nat → Int32} {c_this_told_gutter : Nat → Int32} {f_this_events_size : Int32} {c_this_events_kinds : Nat → Int32} {c_this_events_passes : Nat → Int32} {c_this_events_nozzles : Nat → Int32} {c_this_seenLine : Nat → Int32} {c_this_seenMany : Nat → Int32} {f_this_trial_strayed : Int32} {c_this_trial_picture : Nat → Int32} {c_this_trial_head : Nat → Int32} {c_this_trial_living : Nat → Int32} {c_this_trial_hitCount : Nat → Int32} {c_this_trial_hitPlace : Nat → Int32} {c_this_trial_printingHit : Nat → Int32} {c_this_trial_missedDots : Nat → Int32} {c_this_trial_firstPass : Nat → Int32} {c_this_trial_lastPass : Nat → Int32} {c_this_trial_dotsPrinted : Nat → Int32} {c_this_trial_gutter : Nat → Int32} {c_this_trial_canColumns : Nat → Int32} {c_this_trial_canCount : Nat → Int32} {c_this_living : Nat → Int32} {c_this_tally : Nat → Int32} {c_this_safeBySize : Nat → Int64} {post : Int64 → (Int32 × (Nat → Int32) × (Nat → Int32) × (Nat → Int32) × (Nat → Int32) × (Nat → Int32) × (Nat → Int32) × (Nat → Int32) × (Nat → Int32) × (Nat → Int32) × (Nat → Int32) × (Nat → Int32) × (Nat → Int32) × (Nat → Int32) × (Nat → Int32) × (Nat → Int32) × (Nat → Int64)) → Prop} {Ke_50 : Int64 → Prop} (T : ClsT d s n ek ea en f_this_told_strayed c_this_told_picture c_this_told_head c_this_told_living c_this_told_hitCount c_this_told_hitPlace c_this_told_printingHit c_this_told_missedDots c_this_told_firstPass c_this_told_lastPass c_this_told_dotsPrinted c_this_told_gutter) (E : ClsE n ek ea en f_this_events_size c_this_events_kinds c_this_events_passes c_this_events_nozzles) (S : SeenOk sn sl sm f_this_seenSize c_this_seenLine c_this_seenMany) (hK : Ke_50 (fo (gL s (al0 n ek ea en) d) h0 16)) : ∀ (m k : Nat), k ≤ 16 → 16 - k < m → wq_X3_digest_31 f_this_seenSize f_this_latestFinding f_this_told_strayed c_this_told_picture c_this_told_head c_this_told_living c_this_told_hitCount c_this_told_hitPlace c_this_told_printingHit c_this_told_missedDots c_this_told_firstPass c_this_told_lastPass c_this_told_dotsPrinted c_this_told_gutter f_this_events_size c_this_events_kinds c_this_events_passes c_this_events_nozzles c_this_seenLine c_this_seenMany f_this_trial_strayed c_this_trial_picture c_this_trial_head c_this_trial_living c_this_trial_hitCount c_this_trial_hitPlace c_this_trial_printingHit c_this_trial_missedDots c_this_trial_firstPass c_this_trial_lastPass c_this_trial_dotsPrinted c_this_trial_gutter c_this_trial_canColumns c_this_trial_canCount c_this_living c_this_tally c_this_safeBySize post Ke_50 m (fo (gL s (al0 n ek ea en) d) h0 k) (nI k) := by
  obtain ⟨t1, t2, t3, t4⟩ := id T
  obtain ⟨p1, p2, p3⟩ := id t4
  obtain ⟨q1, q2, q3, q4, q5, q6⟩ := id p2
  have H := t1.1
  intro m
  induction m with
  | zero => intro k g1 g2; omega
  | succ m ih =>
    intro k g1 g2
    unfold wq_X3_digest_31
    rw [show ((16 : Int32) ≤ nI k) ↔ 16 ≤ k from nI_leI (a := 16) (by omega) (by omega)]
    refine ⟨fun q => ?_, fun q => ?_⟩
    · have e : k = 16 := by omega
      subst e; exact hK
    · refine s_mixedLine t1 t2 p1 q2 q3 q5 (by omega) ?_
      rw [forall_eq, nI_1]
      exact ih (k + 1) (by omega) (by omega)
theorem s_dg_k3 {d s : Nat → Nat} {n : Nat} {ek ea en : Nat → Nat} {sn : Nat} {sl sm : Nat → Nat} {h0 : Int64} {f_this_seenSize : Int32} {f_this_latestFinding : Int32} {f_this_told_strayed : Int32} {c_this_told_picture : Nat → Int32} {c_this_told_head : Nat → Int32} {c_this_told_living : Nat → Int32} {c_this_told_hitCount : Nat → Int32} {c_this_told_hitPlace : Nat → Int32} {c_this_told_printingHit : Nat → Int32} {c_this_told_missedDots : Nat → Int32} {c_this_told_firstPass : Nat → Int32} {c_this_told_lastPass : Nat → Int32} {c_this_told_dotsPrinted : Nat → Int32} {c_this_told_gutter : Nat → Int32} {f_this_events_size : Int32} {c_this_events_kinds : Nat → Int32} {c_this_events_passes : Nat → Int32} {c_this_events_nozzles : Nat → Int32} {c_this_seenLine : Nat → Int32} {c_this_seenMany : Nat → Int32} {f_this_trial_strayed : Int32} {c_this_trial_picture : Nat → Int32} {c_this_trial_head : Nat → Int32} {c_this_trial_living : Nat → Int32} {c_this_trial_hitCount : Nat → Int32} {c_this_trial_hitPlace : Nat → Int32} {c_this_trial_printingHit : Nat → Int32} {c_this_trial_missedDots : Nat → Int32} {c_this_trial_firstPass : Nat → Int32} {c_this_trial_lastPass : Nat → Int32} {c_this_trial_dotsPrinted : Nat → Int32} {c_this_trial_gutter : Nat → Int32} {c_this_trial_canColumns : Nat → Int32} {c_this_trial_canCount : Nat → Int32} {c_this_living : Nat → Int32} {c_this_tally : Nat → Int32} {c_this_safeBySize : Nat → Int64} {post : Int64 → (Int32 × (Nat → Int32) × (Nat → Int32) × (Nat → Int32) × (Nat → Int32) × (Nat → Int32) × (Nat → Int32) × (Nat → Int32) × (Nat → Int32) × (Nat → Int32) × (Nat → Int32) × (Nat → Int32) × (Nat → Int32) × (Nat → Int32) × (Nat → Int32) × (Nat → Int32) × (Nat → Int64)) → Prop} {Ke_80 : Int64 → Prop} (T : ClsT d s n ek ea en f_this_told_strayed c_this_told_picture c_this_told_head c_this_told_living c_this_told_hitCount c_this_told_hitPlace c_this_told_printingHit c_this_told_missedDots c_this_told_firstPass c_this_told_lastPass c_this_told_dotsPrinted c_this_told_gutter) (E : ClsE n ek ea en f_this_events_size c_this_events_kinds c_this_events_passes c_this_events_nozzles) (S : SeenOk sn sl sm f_this_seenSize c_this_seenLine c_this_seenMany) (hK : Ke_80 (fo (gS s (al0 n ek ea en) d) h0 4)) : ∀ (m k : Nat), k ≤ 4 → 4 - k < m → wq_X3_digest_58 f_this_seenSize f_this_latestFinding f_this_told_strayed c_this_told_picture c_this_told_head c_this_told_living c_this_told_hitCount c_this_told_hitPlace c_this_told_printingHit c_this_told_missedDots c_this_told_firstPass c_this_told_lastPass c_this_told_dotsPrinted c_this_told_gutter f_this_events_size c_this_events_kinds c_this_events_passes c_this_events_nozzles c_this_seenLine c_this_seenMany f_this_trial_strayed c_this_trial_picture c_this_trial_head c_this_trial_living c_this_trial_hitCount c_this_trial_hitPlace c_this_trial_printingHit c_this_trial_missedDots c_this_trial_firstPass c_this_trial_lastPass c_this_trial_dotsPrinted c_this_trial_gutter c_this_trial_canColumns c_this_trial_canCount c_this_living c_this_tally c_this_safeBySize post Ke_80 m (fo (gS s (al0 n ek ea en) d) h0 k) (nI k) := by
  obtain ⟨t1, t2, t3, t4⟩ := id T
  obtain ⟨p1, p2, p3⟩ := id t4
  obtain ⟨q1, q2, q3, q4, q5, q6⟩ := id p2
  have H := t1.1
  intro m
  induction m with
  | zero => intro k g1 g2; omega
  | succ m ih =>
    intro k g1 g2
    unfold wq_X3_digest_58
    rw [show ((3 : Int32) < nI k) ↔ 3 < k from nI_ltI (a := 3) (by omega) (by omega)]
    refine ⟨fun q => ?_, fun q => ?_⟩
    · have e : k = 4 := by omega
      subst e; exact hK
    · refine s_sum H t2 t4 ?_
      rw [ans_y (show (0 : Int32) ≤ nI k ∧ nI k ≤ 3 from in_nI (n := 3) (by omega) (by decide)), nI_clamp (by omega), forall_eq]
      refine s_mixed ?_
      rw [forall_eq, nI_1]
      exact ih (k + 1) (by omega) (by omega)
theorem s_dg_k4 {d s : Nat → Nat} {n : Nat} {ek ea en : Nat → Nat} {sn : Nat} {sl sm : Nat → Nat} {h0 : Int64} {f_this_seenSize : Int32} {f_this_latestFinding : Int32} {f_this_told_strayed : Int32} {c_this_told_picture : Nat → Int32} {c_this_told_head : Nat → Int32} {c_this_told_living : Nat → Int32} {c_this_told_hitCount : Nat → Int32} {c_this_told_hitPlace : Nat → Int32} {c_this_told_printingHit : Nat → Int32} {c_this_told_missedDots : Nat → Int32} {c_this_told_firstPass : Nat → Int32} {c_this_told_lastPass : Nat → Int32} {c_this_told_dotsPrinted : Nat → Int32} {c_this_told_gutter : Nat → Int32} {f_this_events_size : Int32} {c_this_events_kinds : Nat → Int32} {c_this_events_passes : Nat → Int32} {c_this_events_nozzles : Nat → Int32} {c_this_seenLine : Nat → Int32} {c_this_seenMany : Nat → Int32} {f_this_trial_strayed : Int32} {c_this_trial_picture : Nat → Int32} {c_this_trial_head : Nat → Int32} {c_this_trial_living : Nat → Int32} {c_this_trial_hitCount : Nat → Int32} {c_this_trial_hitPlace : Nat → Int32} {c_this_trial_printingHit : Nat → Int32} {c_this_trial_missedDots : Nat → Int32} {c_this_trial_firstPass : Nat → Int32} {c_this_trial_lastPass : Nat → Int32} {c_this_trial_dotsPrinted : Nat → Int32} {c_this_trial_gutter : Nat → Int32} {c_this_trial_canColumns : Nat → Int32} {c_this_trial_canCount : Nat → Int32} {c_this_living : Nat → Int32} {c_this_tally : Nat → Int32} {c_this_safeBySize : Nat → Int64} {post : Int64 → (Int32 × (Nat → Int32) × (Nat → Int32) × (Nat → Int32) × (Nat → Int32) × (Nat → Int32) × (Nat → Int32) × (Nat → Int32) × (Nat → Int32) × (Nat → Int32) × (Nat → Int32) × (Nat → Int32) × (Nat → Int32) × (Nat → Int32) × (Nat → Int32) × (Nat → Int32) × (Nat → Int64)) → Prop} {Ke_104 : Int64 → Prop} (T : ClsT d s n ek ea en f_this_told_strayed c_this_told_picture c_this_told_head c_this_told_living c_this_told_hitCount c_this_told_hitPlace c_this_told_printingHit c_this_told_missedDots c_this_told_firstPass c_this_told_lastPass c_this_told_dotsPrinted c_this_told_gutter) (E : ClsE n ek ea en f_this_events_size c_this_events_kinds c_this_events_passes c_this_events_nozzles) (S : SeenOk sn sl sm f_this_seenSize c_this_seenLine c_this_seenMany) (hK : Ke_104 (fo (gE s) h0 3)) : ∀ (m k : Nat), k ≤ 3 → 3 - k < m → wq_X3_digest_82 f_this_seenSize f_this_latestFinding f_this_told_strayed c_this_told_picture c_this_told_head c_this_told_living c_this_told_hitCount c_this_told_hitPlace c_this_told_printingHit c_this_told_missedDots c_this_told_firstPass c_this_told_lastPass c_this_told_dotsPrinted c_this_told_gutter f_this_events_size c_this_events_kinds c_this_events_passes c_this_events_nozzles c_this_seenLine c_this_seenMany f_this_trial_strayed c_this_trial_picture c_this_trial_head c_this_trial_living c_this_trial_hitCount c_this_trial_hitPlace c_this_trial_printingHit c_this_trial_missedDots c_this_trial_firstPass c_this_trial_lastPass c_this_trial_dotsPrinted c_this_trial_gutter c_this_trial_canColumns c_this_trial_canCount c_this_living c_this_tally c_this_safeBySize post Ke_104 m (fo (gE s) h0 k) (nI k) := by
  obtain ⟨t1, t2, t3, t4⟩ := id T
  obtain ⟨p1, p2, p3⟩ := id t4
  obtain ⟨q1, q2, q3, q4, q5, q6⟩ := id p2
  have H := t1.1
  intro m
  induction m with
  | zero => intro k g1 g2; omega
  | succ m ih =>
    intro k g1 g2
    unfold wq_X3_digest_82
    rw [show ((2 : Int32) < nI k) ↔ 2 < k from nI_ltI (a := 2) (by omega) (by omega)]
    refine ⟨fun q => ?_, fun q => ?_⟩
    · have e : k = 3 := by omega
      subst e; exact hK
    · refine s_even H p1.1 ?_
      rw [ans_y (show (0 : Int32) ≤ nI k ∧ nI k ≤ 2 from in_nI (n := 2) (by omega) (by decide)), nI_clamp (by omega), forall_eq]
      refine s_mixed ?_
      rw [forall_eq, nI_1]
      exact ih (k + 1) (by omega) (by omega)
theorem s_dg_k5 {d s : Nat → Nat} {n : Nat} {ek ea en : Nat → Nat} {sn : Nat} {sl sm : Nat → Nat} {h0 : Int64} {f_this_seenSize : Int32} {f_this_latestFinding : Int32} {f_this_told_strayed : Int32} {c_this_told_picture : Nat → Int32} {c_this_told_head : Nat → Int32} {c_this_told_living : Nat → Int32} {c_this_told_hitCount : Nat → Int32} {c_this_told_hitPlace : Nat → Int32} {c_this_told_printingHit : Nat → Int32} {c_this_told_missedDots : Nat → Int32} {c_this_told_firstPass : Nat → Int32} {c_this_told_lastPass : Nat → Int32} {c_this_told_dotsPrinted : Nat → Int32} {c_this_told_gutter : Nat → Int32} {f_this_events_size : Int32} {c_this_events_kinds : Nat → Int32} {c_this_events_passes : Nat → Int32} {c_this_events_nozzles : Nat → Int32} {c_this_seenLine : Nat → Int32} {c_this_seenMany : Nat → Int32} {c_this_living : Nat → Int32} {c_this_tally : Nat → Int32} {c_this_safeBySize : Nat → Int64} {post : Int64 → (Int32 × (Nat → Int32) × (Nat → Int32) × (Nat → Int32) × (Nat → Int32) × (Nat → Int32) × (Nat → Int32) × (Nat → Int32) × (Nat → Int32) × (Nat → Int32) × (Nat → Int32) × (Nat → Int32) × (Nat → Int32) × (Nat → Int32) × (Nat → Int32) × (Nat → Int32) × (Nat → Int64)) → Prop} {Ke_139 : Int64 → (Int32) → (Nat → Int32) → (Nat → Int32) → (Nat → Int32) → (Nat → Int32) → (Nat → Int32) → (Nat → Int32) → (Nat → Int32) → (Nat → Int32) → (Nat → Int32) → (Nat → Int32) → (Nat → Int32) → (Nat → Int32) → (Nat → Int32) → Prop} (T : ClsT d s n ek ea en f_this_told_strayed c_this_told_picture c_this_told_head c_this_told_living c_this_told_hitCount c_this_told_hitPlace c_this_told_printingHit c_this_told_missedDots c_this_told_firstPass c_this_told_lastPass c_this_told_dotsPrinted c_this_told_gutter) (E : ClsE n ek ea en f_this_events_size c_this_events_kinds c_this_events_passes c_this_events_nozzles) (S : SeenOk sn sl sm f_this_seenSize c_this_seenLine c_this_seenMany) (hK : (∀ w1 w2 w3 w4 w5 w6 w7 w8 w9 w10 w11 w12 w13 w14, Ke_139 (fo (gT s (al0 n ek ea en) d) h0 3) w1 w2 w3 w4 w5 w6 w7 w8 w9 w10 w11 w12 w13 w14)) : ∀ (m k : Nat) (w1 : Int32) (w2 w3 w4 w5 w6 w7 w8 w9 w10 w11 w12 w13 w14 : Nat → Int32), k ≤ 3 → 3 - k < m → wq_X3_digest_106 f_this_seenSize f_this_latestFinding f_this_told_strayed c_this_told_picture c_this_told_head c_this_told_living c_this_told_hitCount c_this_told_hitPlace c_this_told_printingHit c_this_told_missedDots c_this_told_firstPass c_this_told_lastPass c_this_told_dotsPrinted c_this_told_gutter f_this_events_size c_this_events_kinds c_this_events_passes c_this_events_nozzles c_this_seenLine c_this_seenMany c_this_living c_this_tally c_this_safeBySize post Ke_139 m (fo (gT s (al0 n ek ea en) d) h0 k) (nI k) w1 w2 w3 w4 w5 w6 w7 w8 w9 w10 w11 w12 w13 w14 := by
  obtain ⟨t1, t2, t3, t4⟩ := id T
  obtain ⟨p1, p2, p3⟩ := id t4
  obtain ⟨q1, q2, q3, q4, q5, q6⟩ := id p2
  have H := t1.1
  have bet : ∀ (b w : Nat), b < 3 → w ≤ 1 → aBetter s (al0 n ek ea en) d (nI b) (nI w) = aBet s (al0 n ek ea en) d b w := fun b w hb hw => by
    unfold aBetter
    rw [if_pos (⟨in_nI (n := 2) (by omega) (by decide), in_nI (n := 1) hw (by decide)⟩ : ((0 : Int32) ≤ nI b ∧ nI b ≤ 2) ∧ ((0 : Int32) ≤ nI w ∧ nI w ≤ 1)), nI_clamp (by omega), nI_clamp (by omega)]
  have bet0 : ∀ b, b < 3 → aBetter s (al0 n ek ea en) d (nI b) 0 = aBet s (al0 n ek ea en) d b 0 := fun b hb => bet b 0 hb (by omega)
  have bet1 : ∀ b, b < 3 → aBetter s (al0 n ek ea en) d (nI b) 1 = aBet s (al0 n ek ea en) d b 1 := fun b hb => bet b 1 hb (by omega)
  intro m
  induction m with
  | zero => intro k w1 w2 w3 w4 w5 w6 w7 w8 w9 w10 w11 w12 w13 w14 g1 g2; omega
  | succ m ih =>
    intro k w1 w2 w3 w4 w5 w6 w7 w8 w9 w10 w11 w12 w13 w14 g1 g2
    unfold wq_X3_digest_106
    rw [show ((2 : Int32) < nI k) ↔ 2 < k from nI_ltI (a := 2) (by omega) (by omega)]
    refine ⟨fun q => ?_, fun q => ?_⟩
    · have e : k = 3 := by omega
      subst e; exact hK _ _ _ _ _ _ _ _ _ _ _ _ _ _
    · refine s_better (d := d) t1 t2 t3 (fun u => ?_)
      rw [forall_eq, bet0 k (by omega)]
      refine s_mixed (s_better (d := d) t1 t2 t3 (fun u => ?_))
      rw [forall_eq, bet1 k (by omega)]
      refine s_mixed ?_
      rw [forall_eq, nI_1]
      exact ih (k + 1) _ _ _ _ _ _ _ _ _ _ _ _ _ _ (by omega) (by omega)
theorem s_dg_k1e {d s : Nat → Nat} {n : Nat} {ek ea en : Nat → Nat} {sn : Nat} {sl sm : Nat → Nat} {h0 : Int64} {f_this_seenSize : Int32} {f_this_latestFinding : Int32} {f_this_told_strayed : Int32} {c_this_told_picture : Nat → Int32} {c_this_told_head : Nat → Int32} {c_this_told_living : Nat → Int32} {c_this_told_hitCount : Nat → Int32} {c_this_told_hitPlace : Nat → Int32} {c_this_told_printingHit : Nat → Int32} {c_this_told_missedDots : Nat → Int32} {c_this_told_firstPass : Nat → Int32} {c_this_told_lastPass : Nat → Int32} {c_this_told_dotsPrinted : Nat → Int32} {c_this_told_gutter : Nat → Int32} {f_this_events_size : Int32} {c_this_events_kinds : Nat → Int32} {c_this_events_passes : Nat → Int32} {c_this_events_nozzles : Nat → Int32} {c_this_seenLine : Nat → Int32} {c_this_seenMany : Nat → Int32} {f_this_trial_strayed : Int32} {c_this_trial_picture : Nat → Int32} {c_this_trial_head : Nat → Int32} {c_this_trial_living : Nat → Int32} {c_this_trial_hitCount : Nat → Int32} {c_this_trial_hitPlace : Nat → Int32} {c_this_trial_printingHit : Nat → Int32} {c_this_trial_missedDots : Nat → Int32} {c_this_trial_firstPass : Nat → Int32} {c_this_trial_lastPass : Nat → Int32} {c_this_trial_dotsPrinted : Nat → Int32} {c_this_trial_gutter : Nat → Int32} {c_this_trial_canColumns : Nat → Int32} {c_this_trial_canCount : Nat → Int32} {c_this_living : Nat → Int32} {c_this_tally : Nat → Int32} {c_this_safeBySize : Nat → Int64} {post : Int64 → (Int32 × (Nat → Int32) × (Nat → Int32) × (Nat → Int32) × (Nat → Int32) × (Nat → Int32) × (Nat → Int32) × (Nat → Int32) × (Nat → Int32) × (Nat → Int32) × (Nat → Int32) × (Nat → Int32) × (Nat → Int32) × (Nat → Int32) × (Nat → Int32) × (Nat → Int32) × (Nat → Int64)) → Prop} {Ke_29 : Int64 → Prop} (T : ClsT d s n ek ea en f_this_told_strayed c_this_told_picture c_this_told_head c_this_told_living c_this_told_hitCount c_this_told_hitPlace c_this_told_printingHit c_this_told_missedDots c_this_told_firstPass c_this_told_lastPass c_this_told_dotsPrinted c_this_told_gutter) (E : ClsE n ek ea en f_this_events_size c_this_events_kinds c_this_events_passes c_this_events_nozzles) (S : SeenOk sn sl sm f_this_seenSize c_this_seenLine c_this_seenMany) (hK : Ke_29 (fo (gC d s n ek ea en sn f_this_latestFinding) h0 8)) : ∃ m, wq_X3_digest_6 f_this_seenSize f_this_latestFinding f_this_told_strayed c_this_told_picture c_this_told_head c_this_told_living c_this_told_hitCount c_this_told_hitPlace c_this_told_printingHit c_this_told_missedDots c_this_told_firstPass c_this_told_lastPass c_this_told_dotsPrinted c_this_told_gutter f_this_events_size c_this_events_kinds c_this_events_passes c_this_events_nozzles c_this_seenLine c_this_seenMany f_this_trial_strayed c_this_trial_picture c_this_trial_head c_this_trial_living c_this_trial_hitCount c_this_trial_hitPlace c_this_trial_printingHit c_this_trial_missedDots c_this_trial_firstPass c_this_trial_lastPass c_this_trial_dotsPrinted c_this_trial_gutter c_this_trial_canColumns c_this_trial_canCount c_this_living c_this_tally c_this_safeBySize post Ke_29 m h0 0 := ⟨9, s_dg_k1 T E S hK 9 0 (by omega) (by omega)⟩
theorem s_dg_k2e {d s : Nat → Nat} {n : Nat} {ek ea en : Nat → Nat} {sn : Nat} {sl sm : Nat → Nat} {h0 : Int64} {f_this_seenSize : Int32} {f_this_latestFinding : Int32} {f_this_told_strayed : Int32} {c_this_told_picture : Nat → Int32} {c_this_told_head : Nat → Int32} {c_this_told_living : Nat → Int32} {c_this_told_hitCount : Nat → Int32} {c_this_told_hitPlace : Nat → Int32} {c_this_told_printingHit : Nat → Int32} {c_this_told_missedDots : Nat → Int32} {c_this_told_firstPass : Nat → Int32} {c_this_told_lastPass : Nat → Int32} {c_this_told_dotsPrinted : Nat → Int32} {c_this_told_gutter : Nat → Int32} {f_this_events_size : Int32} {c_this_events_kinds : Nat → Int32} {c_this_events_passes : Nat → Int32} {c_this_events_nozzles : Nat → Int32} {c_this_seenLine : Nat → Int32} {c_this_seenMany : Nat → Int32} {f_this_trial_strayed : Int32} {c_this_trial_picture : Nat → Int32} {c_this_trial_head : Nat → Int32} {c_this_trial_living : Nat → Int32} {c_this_trial_hitCount : Nat → Int32} {c_this_trial_hitPlace : Nat → Int32} {c_this_trial_printingHit : Nat → Int32} {c_this_trial_missedDots : Nat → Int32} {c_this_trial_firstPass : Nat → Int32} {c_this_trial_lastPass : Nat → Int32} {c_this_trial_dotsPrinted : Nat → Int32} {c_this_trial_gutter : Nat → Int32} {c_this_trial_canColumns : Nat → Int32} {c_this_trial_canCount : Nat → Int32} {c_this_living : Nat → Int32} {c_this_tally : Nat → Int32} {c_this_safeBySize : Nat → Int64} {post : Int64 → (Int32 × (Nat → Int32) × (Nat → Int32) × (Nat → Int32) × (Nat → Int32) × (Nat → Int32) × (Nat → Int32) × (Nat → Int32) × (Nat → Int32) × (Nat → Int32) × (Nat → Int32) × (Nat → Int32) × (Nat → Int32) × (Nat → Int32) × (Nat → Int32) × (Nat → Int32) × (Nat → Int64)) → Prop} {Ke_50 : Int64 → Prop} (T : ClsT d s n ek ea en f_this_told_strayed c_this_told_picture c_this_told_head c_this_told_living c_this_told_hitCount c_this_told_hitPlace c_this_told_printingHit c_this_told_missedDots c_this_told_firstPass c_this_told_lastPass c_this_told_dotsPrinted c_this_told_gutter) (E : ClsE n ek ea en f_this_events_size c_this_events_kinds c_this_events_passes c_this_events_nozzles) (S : SeenOk sn sl sm f_this_seenSize c_this_seenLine c_this_seenMany) (hK : Ke_50 (fo (gL s (al0 n ek ea en) d) h0 16)) : ∃ m, wq_X3_digest_31 f_this_seenSize f_this_latestFinding f_this_told_strayed c_this_told_picture c_this_told_head c_this_told_living c_this_told_hitCount c_this_told_hitPlace c_this_told_printingHit c_this_told_missedDots c_this_told_firstPass c_this_told_lastPass c_this_told_dotsPrinted c_this_told_gutter f_this_events_size c_this_events_kinds c_this_events_passes c_this_events_nozzles c_this_seenLine c_this_seenMany f_this_trial_strayed c_this_trial_picture c_this_trial_head c_this_trial_living c_this_trial_hitCount c_this_trial_hitPlace c_this_trial_printingHit c_this_trial_missedDots c_this_trial_firstPass c_this_trial_lastPass c_this_trial_dotsPrinted c_this_trial_gutter c_this_trial_canColumns c_this_trial_canCount c_this_living c_this_tally c_this_safeBySize post Ke_50 m h0 0 := ⟨17, s_dg_k2 T E S hK 17 0 (by omega) (by omega)⟩
theorem s_dg_k3e {d s : Nat → Nat} {n : Nat} {ek ea en : Nat → Nat} {sn : Nat} {sl sm : Nat → Nat} {h0 : Int64} {f_this_seenSize : Int32} {f_this_latestFinding : Int32} {f_this_told_strayed : Int32} {c_this_told_picture : Nat → Int32} {c_this_told_head : Nat → Int32} {c_this_told_living : Nat → Int32} {c_this_told_hitCount : Nat → Int32} {c_this_told_hitPlace : Nat → Int32} {c_this_told_printingHit : Nat → Int32} {c_this_told_missedDots : Nat → Int32} {c_this_told_firstPass : Nat → Int32} {c_this_told_lastPass : Nat → Int32} {c_this_told_dotsPrinted : Nat → Int32} {c_this_told_gutter : Nat → Int32} {f_this_events_size : Int32} {c_this_events_kinds : Nat → Int32} {c_this_events_passes : Nat → Int32} {c_this_events_nozzles : Nat → Int32} {c_this_seenLine : Nat → Int32} {c_this_seenMany : Nat → Int32} {f_this_trial_strayed : Int32} {c_this_trial_picture : Nat → Int32} {c_this_trial_head : Nat → Int32} {c_this_trial_living : Nat → Int32} {c_this_trial_hitCount : Nat → Int32} {c_this_trial_hitPlace : Nat → Int32} {c_this_trial_printingHit : Nat → Int32} {c_this_trial_missedDots : Nat → Int32} {c_this_trial_firstPass : Nat → Int32} {c_this_trial_lastPass : Nat → Int32} {c_this_trial_dotsPrinted : Nat → Int32} {c_this_trial_gutter : Nat → Int32} {c_this_trial_canColumns : Nat → Int32} {c_this_trial_canCount : Nat → Int32} {c_this_living : Nat → Int32} {c_this_tally : Nat → Int32} {c_this_safeBySize : Nat → Int64} {post : Int64 → (Int32 × (Nat → Int32) × (Nat → Int32) × (Nat → Int32) × (Nat → Int32) × (Nat → Int32) × (Nat → Int32) × (Nat → Int32) × (Nat → Int32) × (Nat → Int32) × (Nat → Int32) × (Nat → Int32) × (Nat → Int32) × (Nat → Int32) × (Nat → Int32) × (Nat → Int32) × (Nat → Int64)) → Prop} {Ke_80 : Int64 → Prop} (T : ClsT d s n ek ea en f_this_told_strayed c_this_told_picture c_this_told_head c_this_told_living c_this_told_hitCount c_this_told_hitPlace c_this_told_printingHit c_this_told_missedDots c_this_told_firstPass c_this_told_lastPass c_this_told_dotsPrinted c_this_told_gutter) (E : ClsE n ek ea en f_this_events_size c_this_events_kinds c_this_events_passes c_this_events_nozzles) (S : SeenOk sn sl sm f_this_seenSize c_this_seenLine c_this_seenMany) (hK : Ke_80 (fo (gS s (al0 n ek ea en) d) h0 4)) : ∃ m, wq_X3_digest_58 f_this_seenSize f_this_latestFinding f_this_told_strayed c_this_told_picture c_this_told_head c_this_told_living c_this_told_hitCount c_this_told_hitPlace c_this_told_printingHit c_this_told_missedDots c_this_told_firstPass c_this_told_lastPass c_this_told_dotsPrinted c_this_told_gutter f_this_events_size c_this_events_kinds c_this_events_passes c_this_events_nozzles c_this_seenLine c_this_seenMany f_this_trial_strayed c_this_trial_picture c_this_trial_head c_this_trial_living c_this_trial_hitCount c_this_trial_hitPlace c_this_trial_printingHit c_this_trial_missedDots c_this_trial_firstPass c_this_trial_lastPass c_this_trial_dotsPrinted c_this_trial_gutter c_this_trial_canColumns c_this_trial_canCount c_this_living c_this_tally c_this_safeBySize post Ke_80 m h0 0 := ⟨5, s_dg_k3 T E S hK 5 0 (by omega) (by omega)⟩
theorem s_dg_k4e {d s : Nat → Nat} {n : Nat} {ek ea en : Nat → Nat} {sn : Nat} {sl sm : Nat → Nat} {h0 : Int64} {f_this_seenSize : Int32} {f_this_latestFinding : Int32} {f_this_told_strayed : Int32} {c_this_told_picture : Nat → Int32} {c_this_told_head : Nat → Int32} {c_this_told_living : Nat → Int32} {c_this_told_hitCount : Nat → Int32} {c_this_told_hitPlace : Nat → Int32} {c_this_told_printingHit : Nat → Int32} {c_this_told_missedDots : Nat → Int32} {c_this_told_firstPass : Nat → Int32} {c_this_told_lastPass : Nat → Int32} {c_this_told_dotsPrinted : Nat → Int32} {c_this_told_gutter : Nat → Int32} {f_this_events_size : Int32} {c_this_events_kinds : Nat → Int32} {c_this_events_passes : Nat → Int32} {c_this_events_nozzles : Nat → Int32} {c_this_seenLine : Nat → Int32} {c_this_seenMany : Nat → Int32} {f_this_trial_strayed : Int32} {c_this_trial_picture : Nat → Int32} {c_this_trial_head : Nat → Int32} {c_this_trial_living : Nat → Int32} {c_this_trial_hitCount : Nat → Int32} {c_this_trial_hitPlace : Nat → Int32} {c_this_trial_printingHit : Nat → Int32} {c_this_trial_missedDots : Nat → Int32} {c_this_trial_firstPass : Nat → Int32} {c_this_trial_lastPass : Nat → Int32} {c_this_trial_dotsPrinted : Nat → Int32} {c_this_trial_gutter : Nat → Int32} {c_this_trial_canColumns : Nat → Int32} {c_this_trial_canCount : Nat → Int32} {c_this_living : Nat → Int32} {c_this_tally : Nat → Int32} {c_this_safeBySize : Nat → Int64} {post : Int64 → (Int32 × (Nat → Int32) × (Nat → Int32) × (Nat → Int32) × (Nat → Int32) × (Nat → Int32) × (Nat → Int32) × (Nat → Int32) × (Nat → Int32) × (Nat → Int32) × (Nat → Int32) × (Nat → Int32) × (Nat → Int32) × (Nat → Int32) × (Nat → Int32) × (Nat → Int32) × (Nat → Int64)) → Prop} {Ke_104 : Int64 → Prop} (T : ClsT d s n ek ea en f_this_told_strayed c_this_told_picture c_this_told_head c_this_told_living c_this_told_hitCount c_this_told_hitPlace c_this_told_printingHit c_this_told_missedDots c_this_told_firstPass c_this_told_lastPass c_this_told_dotsPrinted c_this_told_gutter) (E : ClsE n ek ea en f_this_events_size c_this_events_kinds c_this_events_passes c_this_events_nozzles) (S : SeenOk sn sl sm f_this_seenSize c_this_seenLine c_this_seenMany) (hK : Ke_104 (fo (gE s) h0 3)) : ∃ m, wq_X3_digest_82 f_this_seenSize f_this_latestFinding f_this_told_strayed c_this_told_picture c_this_told_head c_this_told_living c_this_told_hitCount c_this_told_hitPlace c_this_told_printingHit c_this_told_missedDots c_this_told_firstPass c_this_told_lastPass c_this_told_dotsPrinted c_this_told_gutter f_this_events_size c_this_events_kinds c_this_events_passes c_this_events_nozzles c_this_seenLine c_this_seenMany f_this_trial_strayed c_this_trial_picture c_this_trial_head c_this_trial_living c_this_trial_hitCount c_this_trial_hitPlace c_this_trial_printingHit c_this_trial_missedDots c_this_trial_firstPass c_this_trial_lastPass c_this_trial_dotsPrinted c_this_trial_gutter c_this_trial_canColumns c_this_trial_canCount c_this_living c_this_tally c_this_safeBySize post Ke_104 m h0 0 := ⟨4, s_dg_k4 T E S hK 4 0 (by omega) (by omega)⟩
theorem s_dg_k5e {d s : Nat → Nat} {n : Nat} {ek ea en : Nat → Nat} {sn : Nat} {sl sm : Nat → Nat} {h0 : Int64} {f_this_seenSize : Int32} {f_this_latestFinding : Int32} {f_this_told_strayed : Int32} {c_this_told_picture : Nat → Int32} {c_this_told_head : Nat → Int32} {c_this_told_living : Nat → Int32} {c_this_told_hitCount : Nat → Int32} {c_this_told_hitPlace : Nat → Int32} {c_this_told_printingHit : Nat → Int32} {c_this_told_missedDots : Nat → Int32} {c_this_told_firstPass : Nat → Int32} {c_this_told_lastPass : Nat → Int32} {c_this_told_dotsPrinted : Nat → Int32} {c_this_told_gutter : Nat → Int32} {f_this_events_size : Int32} {c_this_events_kinds : Nat → Int32} {c_this_events_passes : Nat → Int32} {c_this_events_nozzles : Nat → Int32} {c_this_seenLine : Nat → Int32} {c_this_seenMany : Nat → Int32} {c_this_living : Nat → Int32} {c_this_tally : Nat → Int32} {c_this_safeBySize : Nat → Int64} {post : Int64 → (Int32 × (Nat → Int32) × (Nat → Int32) × (Nat → Int32) × (Nat → Int32) × (Nat → Int32) × (Nat → Int32) × (Nat → Int32) × (Nat → Int32) × (Nat → Int32) × (Nat → Int32) × (Nat → Int32) × (Nat → Int32) × (Nat → Int32) × (Nat → Int32) × (Nat → Int32) × (Nat → Int64)) → Prop} {Ke_139 : Int64 → (Int32) → (Nat → Int32) → (Nat → Int32) → (Nat → Int32) → (Nat → Int32) → (Nat → Int32) → (Nat → Int32) → (Nat → Int32) → (Nat → Int32) → (Nat → Int32) → (Nat → Int32) → (Nat → Int32) → (Nat → Int32) → (Nat → Int32) → Prop} (T : ClsT d s n ek ea en f_this_told_strayed c_this_told_picture c_this_told_head c_this_told_living c_this_told_hitCount c_this_told_hitPlace c_this_told_printingHit c_this_told_missedDots c_this_told_firstPass c_this_told_lastPass c_this_told_dotsPrinted c_this_told_gutter) (E : ClsE n ek ea en f_this_events_size c_this_events_kinds c_this_events_passes c_this_events_nozzles) (S : SeenOk sn sl sm f_this_seenSize c_this_seenLine c_this_seenMany) (hK : (∀ w1 w2 w3 w4 w5 w6 w7 w8 w9 w10 w11 w12 w13 w14, Ke_139 (fo (gT s (al0 n ek ea en) d) h0 3) w1 w2 w3 w4 w5 w6 w7 w8 w9 w10 w11 w12 w13 w14)) (w1 : Int32) (w2 w3 w4 w5 w6 w7 w8 w9 w10 w11 w12 w13 w14 : Nat → Int32) : ∃ m, wq_X3_digest_106 f_this_seenSize f_this_latestFinding f_this_told_strayed c_this_told_picture c_this_told_head c_this_told_living c_this_told_hitCount c_this_told_hitPlace c_this_told_printingHit c_this_told_missedDots c_this_told_firstPass c_this_told_lastPass c_this_told_dotsPrinted c_this_told_gutter f_this_events_size c_this_events_kinds c_this_events_passes c_this_events_nozzles c_this_seenLine c_this_seenMany c_this_living c_this_tally c_this_safeBySize post Ke_139 m h0 0 w1 w2 w3 w4 w5 w6 w7 w8 w9 w10 w11 w12 w13 w14 := ⟨4, s_dg_k5 T E S hK 4 0 _ _ _ _ _ _ _ _ _ _ _ _ _ _ (by omega) (by omega)⟩
theorem s_digest {d s : Nat → Nat} {n : Nat} {ek ea en : Nat → Nat} {sn : Nat} {sl sm : Nat → Nat} {f_this_seenSize : Int32} {f_this_latestFinding : Int32} {f_this_told_strayed : Int32} {c_this_told_picture : Nat → Int32} {c_this_told_head : Nat → Int32} {c_this_told_living : Nat → Int32} {c_this_told_hitCount : Nat → Int32} {c_this_told_hitPlace : Nat → Int32} {c_this_told_printingHit : Nat → Int32} {c_this_told_missedDots : Nat → Int32} {c_this_told_firstPass : Nat → Int32} {c_this_told_lastPass : Nat → Int32} {c_this_told_dotsPrinted : Nat → Int32} {c_this_told_gutter : Nat → Int32} {f_this_trial_strayed : Int32} {c_this_trial_picture : Nat → Int32} {c_this_trial_head : Nat → Int32} {c_this_trial_living : Nat → Int32} {c_this_trial_hitCount : Nat → Int32} {c_this_trial_hitPlace : Nat → Int32} {c_this_trial_printingHit : Nat → Int32} {c_this_trial_missedDots : Nat → Int32} {c_this_trial_firstPass : Nat → Int32} {c_this_trial_lastPass : Nat → Int32} {c_this_trial_dotsPrinted : Nat → Int32} {c_this_trial_gutter : Nat → Int32} {c_this_trial_canColumns : Nat → Int32} {c_this_trial_canCount : Nat → Int32} {f_this_events_size : Int32} {c_this_events_kinds : Nat → Int32} {c_this_events_passes : Nat → Int32} {c_this_events_nozzles : Nat → Int32} {c_this_living : Nat → Int32} {c_this_seenLine : Nat → Int32} {c_this_seenMany : Nat → Int32} {c_this_tally : Nat → Int32} {c_this_safeBySize : Nat → Int64} {post : Int64 → (Int32 × (Nat → Int32) × (Nat → Int32) × (Nat → Int32) × (Nat → Int32) × (Nat → Int32) × (Nat → Int32) × (Nat → Int32) × (Nat → Int32) × (Nat → Int32) × (Nat → Int32) × (Nat → Int32) × (Nat → Int32) × (Nat → Int32) × (Nat → Int32) × (Nat → Int32) × (Nat → Int64)) → Prop} (T : ClsT d s n ek ea en f_this_told_strayed c_this_told_picture c_this_told_head c_this_told_living c_this_told_hitCount c_this_told_hitPlace c_this_told_printingHit c_this_told_missedDots c_this_told_firstPass c_this_told_lastPass c_this_told_dotsPrinted c_this_told_gutter) (E : ClsE n ek ea en f_this_events_size c_this_events_kinds c_this_events_passes c_this_events_nozzles) (S : SeenOk sn sl sm f_this_seenSize c_this_seenLine c_this_seenMany) (h : ∀ u, post (aDigest d s n ek ea en sn sl sm f_this_latestFinding) u) : wp_X3_digest f_this_seenSize f_this_latestFinding f_this_told_strayed c_this_told_picture c_this_told_head c_this_told_living c_this_told_hitCount c_this_told_hitPlace c_this_told_printingHit c_this_told_missedDots c_this_told_firstPass c_this_told_lastPass c_this_told_dotsPrinted c_this_told_gutter f_this_trial_strayed c_this_trial_picture c_this_trial_head c_this_trial_living c_this_trial_hitCount c_this_trial_hitPlace c_this_trial_printingHit c_this_trial_missedDots c_this_trial_firstPass c_this_trial_lastPass c_this_trial_dotsPrinted c_this_trial_gutter c_this_trial_canColumns c_this_trial_canCount f_this_events_size c_this_events_kinds c_this_events_passes c_this_events_nozzles c_this_living c_this_seenLine c_this_seenMany c_this_tally c_this_safeBySize post := by
  obtain ⟨t1, t2, t3, t4⟩ := id T
  obtain ⟨p1, p2, p3⟩ := id t4
  obtain ⟨q1, q2, q3, q4, q5, q6⟩ := id p2
  obtain ⟨e1, e2⟩ := id E
  have H := t1.1
  unfold wp_X3_digest
  refine s_dg_k1e T E S (s_dg_k2e T E S (s_mixedHead t1 t3 q6 p3 (s_dg_k3e T E S (s_dg_k4e T E S (s_dg_k5e T E S (fun w1 w2 w3 w4 w5 w6 w7 w8 w9 w10 w11 w12 w13 w14 => ?_) _ _ _ _ _ _ _ _ _ _ _ _ _ _)))))
  refine s_spare t1 t2 p1 e1 e2 (fun l => ?_)
  intro v hv; rw [dg_sp1] at hv; subst hv
  refine s_mixed (s_spare t1 t2 p1 e1 e2 (fun l => ?_))
  intro v hv; rw [dg_sp0] at hv; subst hv
  refine s_mixed (s_never t1 t2 p1 e1 e2 S (fun l => ?_))
  intro v hv; subst hv
  refine s_mixed (s_was t1 t2 p1 e1 e2 S (fun l => ?_))
  intro v hv; rw [dg_w0] at hv; subst hv
  refine s_mixed (s_was t1 t2 p1 e1 e2 S (fun l => ?_))
  intro v hv; rw [dg_w1] at hv; subst hv
  refine s_mixed (s_ask t1 t2 p1 S (fun u => ?_))
  intro v hv; subst hv
  refine s_mixed (s_chance t1 t2 p1 e1 e2 (fun u => ?_))
  rw [dg_c0]
  refine s_mixed (s_chance t1 t2 p1 e1 e2 (fun u => ?_))
  rw [dg_c1]
  refine s_mixed (s_tests (d := d) t1 t2 t3 (fun u => ?_))
  intro v hv; rw [dg_t0] at hv; subst hv
  refine s_mixed (s_tests (d := d) t1 t2 t3 (fun u => ?_))
  intro v hv; rw [dg_t1] at hv; subst hv
  refine s_mixed ?_
  have h := h
  unfold aDigest dgA at h
  exact h _
