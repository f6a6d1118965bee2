/-! drops at a place; gutter drops -/
def isHit (s : Nat → Nat) (k : Nat) : Prop := ∃ yi : Nat × Nat, yi.1 < 16 ∧ (hs s yi.1)[yi.2]? = some (k / 8, k % 8)
noncomputable def PDv (s : Nat → Nat) (st : Nat → PSt) (k : Nat) : Nat := by
  classical exact if h : isHit s k then (st h.choose.1).1 h.choose.2 else 0
theorem pdv_hit {s : Nat → Nat} (H : Hok s) {st : Nat → PSt} {y i : Nat} {q : Nat × Nat} (hy : y < 16) (hq : (hs s y)[i]? = some q) : PDv s st (8 * q.1 + q.2) = (st y).1 i := by
  obtain ⟨b1, b2, b3, b4⟩ := hs_bd H hq
  have e : ((8 * q.1 + q.2) / 8, (8 * q.1 + q.2) % 8) = q := by
    apply Prod.ext
    · show (8 * q.1 + q.2) / 8 = q.1; omega
    · show (8 * q.1 + q.2) % 8 = q.2; omega
  have h : isHit s (8 * q.1 + q.2) := ⟨(y, i), hy, by rw [e]; exact hq⟩
  unfold PDv
  rw [dif_pos h]
  have hc := h.choose_spec
  obtain ⟨e1, e2⟩ := hs_apart H (hc.2.trans (congrArg some e)) hq rfl
  rw [e1, e2]
theorem pdv_no {s : Nat → Nat} {st : Nat → PSt} {k : Nat} (h : ¬ isHit s k) : PDv s st k = 0 := by
  unfold PDv; rw [dif_neg h]
theorem dp_val {s : Nat → Nat} (H : Hok s) {st : Nat → PSt} {A : Nat → Int32} (h : DpOk s st A) {k : Nat} (hk : k < 96) : A k = nI (PDv s st k) := by
  by_cases c : isHit s k
  · obtain ⟨⟨y, i⟩, hy, hq⟩ := c
    have e : 8 * (k / 8) + k % 8 = k := by omega
    have h1 := h.1 y hy i _ hq
    have h2 := pdv_hit H (st := st) hy hq
    simp only [e] at h1 h2
    rw [h1, h2]
  · rw [pdv_no c]
    refine h.2 k hk (fun y hy q hq e => c ?_)
    obtain ⟨i, hi⟩ := List.mem_iff_getElem?.mp hq
    obtain ⟨b1, b2, b3, b4⟩ := hs_bd H hi
    refine ⟨(y, i), hy, ?_⟩
    rw [← e, hi]
    congr 1
    apply Prod.ext
    · show q.1 = (8 * q.1 + q.2) / 8; omega
    · show q.2 = (8 * q.1 + q.2) % 8; omega
theorem pdv_le {s : Nat → Nat} {st : Nat → PSt} (hB : Bnd s st) (k : Nat) : PDv s st k ≤ s 5 := by
  by_cases c : isHit s k
  · unfold PDv; rw [dif_pos c]; exact hB _ _
  · rw [pdv_no c]; exact Nat.zero_le _
def gu (s : Nat → Nat) (al : Nat → Nat → Bool) (D : Nat → Nat) (j : Nat) : Nat → Nat × Nat
  | 0 => (0, 0)
  | p + 1 => if (if al p j = true ∧ D (8 * p + j) = 0 then (gu s al D j p).1 + 1 else 0) = s 6 then (0, (gu s al D j p).2 ||| 2 ^ p) else (if al p j = true ∧ D (8 * p + j) = 0 then (gu s al D j p).1 + 1 else 0, (gu s al D j p).2)
theorem gu_le (s : Nat → Nat) (al : Nat → Nat → Bool) (D : Nat → Nat) (j : Nat) : ∀ p, (gu s al D j p).1 ≤ p ∧ (gu s al D j p).2 < 2 ^ p := by
  intro p
  induction p with
  | zero => exact ⟨Nat.le_refl _, Nat.zero_lt_one⟩
  | succ p ih =>
    have h2 : (gu s al D j p).2 < 2 ^ (p + 1) := Nat.lt_of_lt_of_le ih.2 (Nat.pow_le_pow_right (by decide) (by omega))
    unfold gu
    by_cases c : al p j = true ∧ D (8 * p + j) = 0
    · rw [if_pos c]
      by_cases e : (gu s al D j p).1 + 1 = s 6
      · rw [if_pos e]
        exact ⟨Nat.zero_le _, Nat.or_lt_two_pow h2 (Nat.pow_lt_pow_right (by decide) (by omega))⟩
      · rw [if_neg e]; exact ⟨by show (gu s al D j p).1 + 1 ≤ p + 1; omega, h2⟩
    · rw [if_neg c]
      by_cases e : 0 = s 6
      · rw [if_pos e]
        exact ⟨Nat.zero_le _, Nat.or_lt_two_pow h2 (Nat.pow_lt_pow_right (by decide) (by omega))⟩
      · rw [if_neg e]; exact ⟨Nat.zero_le _, h2⟩
theorem s_gutterPasses {s : Nat → Nat} {al : Nat → Nat → Bool} {head living dp : Nat → Int32} (hh : Hd s head) (hL : LivOk al living) {D : Nat → Nat} (hD : ∀ k, k < 96 → dp k = nI (D k)) (hb : ∀ k, D k < 2 ^ 31) {j : Nat} (hj : j < 8) {post : Int32 → Unit → Prop} (h : post (nI (gu s al D j (s 3)).2) ()) : wp_X1_gutterPasses (nI j) head living dp post := by
  obtain ⟨a0, a1, a2, a3, a4, a5, a6, a7, a8⟩ := hh.1
  unfold wp_X1_gutterPasses
  have key : ∀ (m p : Nat), p ≤ s 3 → s 3 - p < m → wq_X1_gutterPasses_7 head living dp (nI j) post (fun e27 => post e27 ()) m (nI (gu s al D j p).2) (nI (gu s al D j p).1) (nI p) := by
    intro m
    induction m with
    | zero => intro p g1 g2; omega
    | succ m ih =>
      intro p g1 g2
      unfold wq_X1_gutterPasses_7
      rw [hh.at 3 (by omega) (by omega)]
      simp (disch := omega) only [nI_leI]
      refine ⟨fun c => ?_, fun c => ?_⟩
      · have : p = s 3 := by omega
        subst this; exact h
      · have st := ih (p + 1) (by omega) (by omega)
        obtain ⟨l1, l2⟩ := gu_le s al D j p
        have join : ∀ v, v ≤ 12 → v = (if al p j = true ∧ D (8 * p + j) = 0 then (gu s al D j p).1 + 1 else 0) → wq_X1_gutterPasses_65 head living dp (nI j) post (wq_X1_gutterPasses_7 head living dp (nI j) post (fun e27 => post e27 ()) m) (fun e27 => post e27 ()) (nI (gu s al D j p).2) (nI p) (nI v) := by
          intro v hv12 hv
          unfold wq_X1_gutterPasses_65
          rw [hh.at 6 (by omega) (by omega)]
          simp (disch := omega) only [nI_eq, forall_eq, fa_lit, nI_add]
          unfold gu at st
          rw [← hv] at st
          refine ⟨fun c1 => ?_, fun c1 => ?_⟩
          · rw [if_neg c1] at st; exact st
          · rw [if_pos c1] at st
            rw [q_shl (by omega) (by
              have : 2 ^ p ≤ 2 ^ 12 := Nat.pow_le_pow_right (by decide) (by omega)
              omega), Nat.one_mul, fa_or]
            exact st
        obtain ⟨a, la, lb, lc⟩ := hL j hj
        refine s_isLiving hj (by omega) lb (by omega) ?_
        rw [lc p (by omega), b01_0]
        refine ⟨fun c1 => ⟨fun _ => ?_, fun q => absurd trivial q⟩, fun c1 => ?_⟩
        · exact join 0 (by omega) (by rw [if_neg (by rw [c1]; simp)])
        · have c1 : al p j = true := by cases e : al p j with
            | false => exact absurd e c1
            | true => rfl
          have hdk := hD (8 * p + j) (by omega)
          have hdb := hb (8 * p + j)
          rw [Nat.mul_comm] at hdk hdb
          simp (disch := omega) only [forall_eq, pk_mul, nI_add, fa_lit, q_in, nI_clamp, hdk, true_and, nI_eq]
          refine ⟨fun c2 => ⟨fun _ => ?_, fun q => absurd trivial (by simpa using q)⟩, fun c2 => ⟨fun q => absurd q (by omega), fun _ => ?_⟩⟩
          · exact join 0 (by omega) (by rw [if_neg (by rw [Nat.mul_comm 8 p]; exact fun q => c2 q.2)])
          · exact join _ (by omega) (by rw [if_pos ⟨c1, by rw [Nat.mul_comm 8 p]; exact c2⟩])
  exact ⟨s 3 + 1, key (s 3 + 1) 0 (by omega) (by omega)⟩
def stk (s : Nat → Nat) (al : Nat → Nat → Bool) (d : Nat → Nat) (k : Nat) : Nat → PSt := fun y => if y < k then fin s al (d y) y else ps0
theorem stk_s (s : Nat → Nat) (al : Nat → Nat → Bool) (d : Nat → Nat) (k : Nat) : va_up (stk s al d k) k (fin s al (d k) k) = stk s al d (k + 1) := by
  funext y
  unfold stk
  by_cases e : y = k
  · subst e; rw [va_up_self, if_pos (by omega)]
  · rw [va_up_ne _ _ e]
    by_cases c : y < k
    · rw [if_pos c, if_pos (by omega)]
    · rw [if_neg c, if_neg (by omega)]
theorem stk_0 (s : Nat → Nat) (al : Nat → Nat → Bool) (d : Nat → Nat) : stk s al d 0 = fun _ => ps0 := by
  funext y; unfold stk; rw [if_neg (by omega)]
theorem stk_at {s : Nat → Nat} {al : Nat → Nat → Bool} {d : Nat → Nat} {y : Nat} (hy : y < 16) : stk s al d 16 y = fin s al (d y) y := by unfold stk; rw [if_pos hy]
theorem stk_bnd (s : Nat → Nat) (al : Nat → Nat → Bool) (d : Nat → Nat) (k : Nat) : Bnd s (stk s al d k) := by
  intro y i
  unfold stk
  by_cases c : y < k
  · rw [if_pos c]; exact pf_bnd s al y _ i
  · rw [if_neg c]; exact Nat.zero_le _
def PicOk (d : Nat → Nat) (pic : Nat → Int32) : Prop := ∀ y, y < 16 → pic y = nI (d y) ∧ d y < 256
def GutC (s : Nat → Nat) (al : Nat → Nat → Bool) (D : Nat → Nat) (gt : Nat → Int32) : Prop := ∀ j, j < 8 → gt j = nI (if j < s 0 then (gu s al D j (s 3)).2 else 0)
/-- all that the class has printed -/
def PlanOk (s : Nat → Nat) (al : Nat → Nat → Bool) (d : Nat → Nat) (str : Int32) (hc hp ph md fp lp dp gt : Nat → Int32) : Prop := ClsH s hc hp ∧ ClsP s (stk s al d 16) str ph md fp lp dp ∧ GutC s al (PDv s (stk s al d 16)) gt
theorem s_print {s : Nat → Nat} {al : Nat → Nat → Bool} {d : Nat → Nat} {head pic living hc0 hp0 ph0 md0 fp0 lp0 dp0 gt0 cc0 cn0 : Nat → Int32} {str0 : Int32} (hh : Hd s head) (hL : LivOk al living) (hpic : PicOk d pic) {post : (Int32 × (Nat → Int32) × (Nat → Int32) × (Nat → Int32) × (Nat → Int32) × (Nat → Int32) × (Nat → Int32) × (Nat → Int32) × (Nat → Int32) × (Nat → Int32) × (Nat → Int32)) → Prop}
    (h : ∀ str hc hp ph md fp lp dp gt cc cn, PlanOk s al d str hc hp ph md fp lp dp gt → post (str, hc, hp, ph, md, fp, lp, dp, gt, cc, cn)) : wp_X1_print str0 pic head living hc0 hp0 ph0 md0 fp0 lp0 dp0 gt0 cc0 cn0 post := by
  have H := hh.1
  obtain ⟨a0, a1, a2, a3, a4, a5, a6, a7, a8⟩ := id H
  unfold wp_X1_print
  refine s_layHits hh (fun hc hp hC hR => ?_)
  have hH : ClsH s hc hp := ⟨hC, hR⟩
  refine s_fill (by omega) (fun ph hph _ => s_fill (by omega) (fun md hmd _ => s_fill (by omega) (fun fp hfp _ => s_fill (by omega) (fun lp hlp _ => s_fill (by omega) (fun dp hdp _ => ?_)))))
  have gl : ∀ (str : Int32) (ph md fp lp dp cc cn : Nat → Int32), ClsP s (stk s al d 16) str ph md fp lp dp → ∀ (m j : Nat) (gt : Nat → Int32), j ≤ 8 → 8 - j < m → (∀ k, k < j → gt k = nI (if k < s 0 then (gu s al (PDv s (stk s al d 16)) k (s 3)).2 else 0)) → wq_X1_print_70 pic head living str hc hp ph md fp lp dp cc cn post (fun d36 => post (str, hc, hp, ph, md, fp, lp, dp, d36, cc, cn)) m (nI j) gt := by
    intro str ph md fp lp dp cc cn hP m
    induction m with
    | zero => intro j gt g1 g2; omega
    | succ m ih =>
      intro j gt g1 g2 hg
      unfold wq_X1_print_70
      simp (disch := omega) only [fa_lit, nI_leI]
      refine ⟨fun c => h _ _ _ _ _ _ _ _ _ _ _ ⟨hH, hP, fun k hk => hg k (by omega)⟩, fun c => ?_⟩
      rw [hh.at 0 (by omega) (by omega)]
      simp (disch := omega) only [nI_leI, q_in, true_and, forall_eq, nI_add, nI_clamp]
      refine ⟨fun c1 => ?_, fun c1 => ?_⟩
      · refine ih (j + 1) _ (by omega) (by omega) (fun k hk => ?_)
        by_cases e : k = j
        · subst e; rw [pk_us, if_neg (by omega)]
        · rw [pk_un e]; exact hg k (by omega)
      · refine s_gutterPasses hh hL (fun k hk => dp_val H hP.2.2.2.2.2 hk) (fun k => by have := pdv_le (stk_bnd s al d 16) k; omega) (by omega) ?_
        refine ih (j + 1) _ (by omega) (by omega) (fun k hk => ?_)
        by_cases e : k = j
        · subst e; rw [pk_us, if_pos (by omega)]
        · rw [pk_un e]; exact hg k (by omega)
  have ll : ∀ (m y : Nat) (str : Int32) (ph md fp lp dp cc cn : Nat → Int32), y ≤ 16 → 16 - y < m → ClsP s (stk s al d y) str ph md fp lp dp → wq_X1_print_51 pic head living hc hp gt0 post (fun d28 d29 d30 d31 d32 d33 d34 d35 => ∃ n37 : Nat, wq_X1_print_70 pic head living d28 hc hp d29 d30 d31 d32 d33 d34 d35 post (fun d36 => post (d28, hc, hp, d29, d30, d31, d32, d33, d36, d34, d35)) n37 (0 : Int32) gt0) m (nI y) str ph md fp lp dp cc cn := by
    intro m
    induction m with
    | zero => intro y str ph md fp lp dp cc cn g1 g2; omega
    | succ m ih =>
      intro y str ph md fp lp dp cc cn g1 g2 hP
      unfold wq_X1_print_51
      simp (disch := omega) only [fa_lit, nI_leI]
      refine ⟨fun c => ?_, fun c => ?_⟩
      · have : y = 16 := by omega
        subst this
        exact ⟨9, gl _ _ _ _ _ _ _ _ hP 9 0 gt0 (by omega) (by omega) (fun k hk => by omega)⟩
      · obtain ⟨q1, q2⟩ := hpic y (by omega)
        refine s_printLine hh hL hH (by omega) hP (stk_bnd s al d y) (by unfold stk; rw [if_neg (by omega)]) q1 q2 (fun str' ph' md' fp' lp' dp' cc' cn' hP' => ?_)
        intro v hv
        rw [hv, nI_add]
        rw [stk_s] at hP'
        exact ih (y + 1) _ _ _ _ _ _ _ _ (by omega) (by omega) hP'
  refine ⟨17, ll 17 0 _ _ _ _ _ _ _ _ (by omega) (by omega) ?_⟩
  rw [stk_0]
  refine ⟨rfl, fun y hy x hx => hph _ (by omega), fun y hy => hmd y hy, fun y hy => ⟨none, fun _ _ _ => rfl, hfp y hy⟩, fun y hy => ⟨none, fun _ _ _ => rfl, hlp y hy⟩, fun y hy i q hq => ?_, fun k hk _ => hdp k hk⟩
  obtain ⟨b1, b2, b3, b4⟩ := hs_bd H hq
  exact hdp _ (by omega)
