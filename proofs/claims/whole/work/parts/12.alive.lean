/-! the reference finds the hits -/
def vHp (q : Nat × Nat) : Int32 := nI q.1
def vHn (q : Nat × Nat) : Int32 := nI q.2
def vH0 (_ : Nat × Nat) : Int32 := nI 0
theorem r_hits_in {s : Nat → Nat} {now : Nat → Int32} (hh : Hd s now) {p : Nat} (hp : p < s 3) {post : ((Nat → Int32) × (Nat → Int32) × (Nat → Int32) × (Nat → Int32)) → Prop} {Ke : (Nat → Int32) → (Nat → Int32) → (Nat → Int32) → (Nat → Int32) → Prop} (hK : ∀ hc h1 h2 h3, CntOk s (prs (s 0) (p + 1)) hc → RowOk s (prs (s 0) (p + 1)) vHp h1 → RowOk s (prs (s 0) (p + 1)) vHn h2 → RowOk s (prs (s 0) (p + 1)) vH0 h3 → Ke hc h1 h2 h3) :
    ∀ (m j : Nat) (hc h1 h2 h3 : Nat → Int32), j ≤ s 0 → s 0 - j < m → CntOk s (pre (s 0) p j) hc → RowOk s (pre (s 0) p j) vHp h1 → RowOk s (pre (s 0) p j) vHn h2 → RowOk s (pre (s 0) p j) vH0 h3 → wq_X4_findsHits_35 now (nI p) post Ke m (nI j) hc h1 h2 h3 := by
  have H := hh.1
  obtain ⟨a0, a1, a2, a3, a4, a5, a6, a7, a8⟩ := id H
  intro m
  induction m with
  | zero => intro j hc h1 h2 h3 g1 g2; omega
  | succ m ih =>
    intro j hc h1 h2 h3 g1 g2 hC hR1 hR2 hR3
    unfold wq_X4_findsHits_35
    rw [hh.at 0 (by omega) (by omega), hh.at 1 (by omega) (by omega), hh.at 2 (by omega) (by omega), hh.four]
    refine ⟨fun c => ?_, fun c => ?_⟩
    · have : j = s 0 := by have := (nI_leI (by omega) (by omega)).mp c; omega
      subst this
      rw [pre_n] at hC hR1 hR2 hR3
      exact hK _ _ _ _ hC hR1 hR2 hR3
    · have hj : j < s 0 := by
        rcases Nat.lt_or_ge j (s 0) with q | q
        · exact q
        · exact absurd (nI_le q (by omega)) c
      have hb := bnd H (p := p) (j := j) (by omega) (by omega)
      rw [forall_eq]
      rw [forall_eq]
      rw [forall_eq]
      rw [pk_mul, pk_mul, q_line]
      refine r_isLine ?_
      have hlen : ∀ z, ((pre (s 0) p j).filter (onl s z)).length ≤ 12 := fun z => fil_len a1.1 (pre_lx _ _ _) (fun q hq => by have := pre_mem g1 hq; omega)
      by_cases hl : ∃ y, y < 16 ∧ onl s y (p, j) = true
      · rw [decide_eq_true ((q_isLine s p j hb a4).mpr hl)]
        refine ⟨fun q => absurd q (by decide), fun _ => ?_⟩
        obtain ⟨y, hy, hon⟩ := hl
        have hyv := onl_of.mp hon
        rw [pk_sub (by omega), show p * s 2 + j * s 1 - s 4 = y by omega]
        have hl12 : ((pre (s 0) p j).filter (onl s y)).length < 12 := by
          have := fil_len (y := y) (n := 12) a1.1 (pre_lx (s 0) p (j + 1)) (fun q hq => by have := pre_mem (by omega) hq; omega)
          rw [pre_s, fil_yes _ hon, List.length_append] at this
          simp at this
          omega
        simp (disch := omega) only [q_in, nI_clamp, true_and, forall_eq, fa_lit, hC y hy, nI_leI, pk_mul, nI_add]
        refine ih (j + 1) _ _ _ _ (by omega) (by omega) ?_ ?_ ?_ ?_
        · rw [pre_s]; exact cnt_yes hC hon
        · rw [pre_s]; exact row_yes hR1 hon hlen hl12
        · rw [pre_s]; exact row_yes hR2 hon hlen hl12
        · rw [pre_s]; exact row_yes hR3 hon hlen hl12
      · rw [decide_eq_false (fun q => hl ((q_isLine s p j hb a4).mp q))]
        refine ⟨fun _ => ?_, fun q => absurd rfl q⟩
        rw [forall_eq, nI_1]
        have hq : ∀ y, y < 16 → onl s y (p, j) = false := fun y hy => by
          cases e : onl s y (p, j)
          · rfl
          · exact absurd ⟨y, hy, e⟩ hl
        refine ih (j + 1) _ _ _ _ (by omega) (by omega) ?_ ?_ ?_ ?_
        · rw [pre_s]; exact cnt_no hC hq
        · rw [pre_s]; exact row_no hR1 hq
        · rw [pre_s]; exact row_no hR2 hq
        · rw [pre_s]; exact row_no hR3 hq
theorem r_findsHits {s : Nat → Nat} {now c0 c1 c2 c3 : Nat → Int32} (hh : Hd s now) {post : ((Nat → Int32) × (Nat → Int32) × (Nat → Int32) × (Nat → Int32)) → Prop} (h : ∀ hc h1 h2 h3, CntOk s (prs (s 0) (s 3)) hc → RowOk s (prs (s 0) (s 3)) vHp h1 → RowOk s (prs (s 0) (s 3)) vHn h2 → RowOk s (prs (s 0) (s 3)) vH0 h3 → post (hc, h1, h2, h3)) : wp_X4_findsHits now c0 c1 c2 c3 post := by
  have H := hh.1
  obtain ⟨a0, a1, a2, a3, a4, a5, a6, a7, a8⟩ := id H
  unfold wp_X4_findsHits
  have key : ∀ (m p : Nat) (hc h1 h2 h3 : Nat → Int32), p ≤ s 3 → s 3 - p < m → CntOk s (prs (s 0) p) hc → RowOk s (prs (s 0) p) vHp h1 → RowOk s (prs (s 0) p) vHn h2 → RowOk s (prs (s 0) p) vH0 h3 → wq_X4_findsHits_23 now post (fun d75 d76 d77 d78 => post (d75, d76, d77, d78)) m (nI p) hc h1 h2 h3 := by
    intro m
    induction m with
    | zero => intro p hc h1 h2 h3 g1 g2; omega
    | succ m ih =>
      intro p hc h1 h2 h3 g1 g2 hC hR1 hR2 hR3
      unfold wq_X4_findsHits_23
      rw [hh.at 3 (by omega) (by omega)]
      refine ⟨fun c => ?_, fun c => ?_⟩
      · have : p = s 3 := by have := (nI_leI (by omega) (by omega)).mp c; omega
        subst this
        exact h _ _ _ _ hC hR1 hR2 hR3
      · have hp3 : p < s 3 := by
          rcases Nat.lt_or_ge p (s 3) with q | q
          · exact q
          · exact absurd (nI_le q (by omega)) c
        refine ⟨s 0 + 1, r_hits_in hh hp3 (fun hc' h1' h2' h3' hC' hR1' hR2' hR3' => ?_) (s 0 + 1) 0 hc h1 h2 h3 (by omega) (by omega) (by rw [pre_0]; exact hC) (by rw [pre_0]; exact hR1) (by rw [pre_0]; exact hR2) (by rw [pre_0]; exact hR3)⟩
        intro v hv
        rw [hv, nI_1]
        exact ih (p + 1) hc' h1' h2' h3' (by omega) (by omega) hC' hR1' hR2' hR3'
  have key2 : ∀ (m y : Nat) (hc : Nat → Int32), y ≤ 16 → 16 - y < m → (∀ k, k < y → hc k = nI 0) → wq_X4_findsHits_2 now c1 c2 c3 post (fun d74 => ∃ n79 : Nat, wq_X4_findsHits_23 now post (fun d75 d76 d77 d78 => post (d75, d76, d77, d78)) n79 (0 : Int32) d74 c1 c2 c3) m (nI y) hc := by
    intro m
    induction m with
    | zero => intro y hc g1 g2; omega
    | succ m ih =>
      intro y hc g1 g2 hz
      unfold wq_X4_findsHits_2
      simp (disch := omega) only [fa_lit, nI_leI]
      refine ⟨fun c => ?_, fun c => ?_⟩
      · refine ⟨s 3 + 1, key (s 3 + 1) 0 hc c1 c2 c3 (by omega) (by omega) (fun k hk => ?_) (fun y hy i q hq => ?_) (fun y hy i q hq => ?_) (fun y hy i q hq => ?_)⟩
        · rw [hz k (by omega)]; rfl
        · simp [prs] at hq
        · simp [prs] at hq
        · simp [prs] at hq
      · refine ⟨vp_in_nI (by omega) (by omega), ?_⟩
        rw [forall_eq, nI_add, nI_clamp (by omega)]
        refine ih (y + 1) _ (by omega) (by omega) (fun k hk => ?_)
        by_cases e : k = y
        · subst e; exact pk_us
        · rw [pk_un e]; exact hz k (by omega)
  exact ⟨17, key2 17 0 c0 (by omega) (by omega) (fun k hk => by omega)⟩
/-! events: which nozzle is alive in which pass -/
def oI : Option Nat → Int32
  | none => -nI 1
  | some n => nI n
def bst (ea en : Nat → Nat) (ch : Nat → Bool) (p j : Nat) : Nat → Option Nat
  | 0 => none
  | e + 1 => if en e = j ∧ ea e ≤ p ∧ ch e = true then (match bst ea en ch p j e with
      | none => some e
      | some b => if ea b ≤ ea e then some e else some b) else bst ea en ch p j e
def alv (n : Nat) (ek ea en : Nat → Nat) (ch : Nat → Bool) (p j : Nat) : Bool := match bst ea en ch p j n with
  | none => true
  | some b => decide (ek b = 1)
def BestOf (ea : Nat → Nat) (E : Nat → Prop) : Option Nat → Prop
  | none => ∀ e, ¬ E e
  | some b => E b ∧ ∀ e, E e → ea e < ea b ∨ (ea e = ea b ∧ e ≤ b)
theorem best_uniq {ea : Nat → Nat} {E : Nat → Prop} {a b : Option Nat} (ha : BestOf ea E a) (hb : BestOf ea E b) : a = b := by
  cases a with
  | none => cases b with
    | none => rfl
    | some b => exact absurd hb.1 (ha b)
  | some a => cases b with
    | none => exact absurd ha.1 (hb a)
    | some b =>
      have h1 := ha.2 b hb.1
      have h2 := hb.2 a ha.1
      congr 1
      omega
theorem best_cong {ea : Nat → Nat} {E F : Nat → Prop} {a : Option Nat} (h : ∀ e, E e ↔ F e) (ha : BestOf ea E a) : BestOf ea F a := by
  cases a with
  | none => exact fun e he => ha e ((h e).mpr he)
  | some a => exact ⟨(h a).mp ha.1, fun e he => ha.2 e ((h e).mpr he)⟩
theorem bst_best (ea en : Nat → Nat) (ch : Nat → Bool) (p j : Nat) : ∀ n, BestOf ea (fun e => e < n ∧ en e = j ∧ ea e ≤ p ∧ ch e = true) (bst ea en ch p j n) := by
  intro n
  induction n with
  | zero => intro e he; omega
  | succ n ih =>
    unfold bst
    by_cases hc : en n = j ∧ ea n ≤ p ∧ ch n = true
    · rw [if_pos hc]
      cases hb : bst ea en ch p j n with
      | none =>
        rw [hb] at ih
        refine ⟨⟨by omega, hc⟩, fun e he => ?_⟩
        by_cases e1 : e = n
        · exact Or.inr ⟨by rw [e1], by omega⟩
        · exact absurd ⟨by omega, he.2⟩ (ih e)
      | some b =>
        rw [hb] at ih
        show BestOf ea _ (if ea b ≤ ea n then some n else some b)
        by_cases hle : ea b ≤ ea n
        · rw [if_pos hle]
          refine ⟨⟨by omega, hc⟩, fun e he => ?_⟩
          by_cases e1 : e = n
          · exact Or.inr ⟨by rw [e1], by omega⟩
          · have := ih.2 e ⟨by omega, he.2⟩
            omega
        · rw [if_neg hle]
          refine ⟨⟨by have := ih.1.1; omega, ih.1.2⟩, fun e he => ?_⟩
          by_cases e1 : e = n
          · subst e1; left; omega
          · exact ih.2 e ⟨by omega, he.2⟩
    · rw [if_neg hc]
      refine best_cong (fun e => ?_) ih
      constructor
      · rintro ⟨h1, h2⟩; exact ⟨by omega, h2⟩
      · rintro ⟨h1, h2⟩
        refine ⟨?_, h2⟩
        by_cases e1 : e = n
        · subst e1; exact absurd h2 hc
        · omega
/-- what the events are, in the arrays -/
def EvOk (n : Nat) (ek ea en : Nat → Nat) (ck ca cn : Nat → Int32) : Prop := n ≤ 8 ∧ ∀ e, e < n → (ck e = nI (ek e) ∧ ca e = nI (ea e) ∧ cn e = nI (en e)) ∧ ek e ≤ 1 ∧ ea e < 12 ∧ en e < 8
theorem bst_lt {ea en : Nat → Nat} {ch : Nat → Bool} {p j n b : Nat} (h : bst ea en ch p j n = some b) : b < n := by
  have := bst_best ea en ch p j n
  rw [h] at this
  exact this.1.1
theorem oI_none (b : Option Nat) (hb : ∀ x, b = some x → x < 2 ^ 31) : (oI b = -nI 1) ↔ b = none := by
  cases b with
  | none => simp [oI]
  | some x => simp only [oI]; exact ⟨fun q => absurd q (q_m1 x (hb x rfl)), fun q => by cases q⟩
theorem r_isAlive {n : Nat} {ek ea en : Nat → Nat} {ck ca cn : Nat → Int32} (hE : EvOk n ek ea en ck ca cn) {ne p j : Nat} {dd : Option Nat} (hne : ne < 2 ^ 31) (hp : p < 2 ^ 31) (hj : j < 2 ^ 31) (hdd : ∀ x, dd = some x → x < 2 ^ 31) {post : Int32 → Unit → Prop} (h : post (b01 (decide (dd ≠ some j) && alv n ek ea en (fun e => !ne.testBit e) p j)) ()) : wp_X4_isAlive (nI p) (nI j) (nI n) (nI ne) (oI dd) ck ca cn post := by
  unfold wp_X4_isAlive
  obtain ⟨hn8, hev⟩ := hE
  have key : ∀ (Ke : Int32 → Prop), Ke (oI (bst ea en (fun e => !ne.testBit e) p j n)) → ∀ (m e : Nat), e ≤ n → n - e < m → wq_X4_isAlive_5 (nI n) (nI ne) (oI dd) ck ca cn (nI p) (nI j) post Ke m (oI (bst ea en (fun e => !ne.testBit e) p j e)) (nI e) := by
    intro Ke hK m
    induction m with
    | zero => intro e g1 g2; omega
    | succ m ih =>
      intro e g1 g2
      unfold wq_X4_isAlive_5
      simp (disch := omega) only [nI_leI]
      refine ⟨fun c => ?_, fun c => ?_⟩
      · have : e = n := by omega
        subst this; exact hK
      · obtain ⟨⟨e1, e2, e3⟩, f1, f2, f3⟩ := hev e (by omega)
        have step := ih (e + 1) (by omega) (by omega)
        have hb31 : ∀ x, bst ea en (fun e => !ne.testBit e) p j e = some x → x < 2 ^ 31 := fun x hx => by have := bst_lt hx; omega
        simp (disch := omega) only [q_in, nI_clamp, true_and, forall_eq, e2, e3, nI_eq, nI_ltI]
        refine ⟨fun c1 => ?_, fun c1 => ⟨fun c2 => ?_, fun c2 => ?_⟩⟩
        · unfold wq_X4_isAlive_53
          refine ⟨fun _ => ?_, fun q => absurd rfl q⟩
          rw [forall_eq, nI_1]
          unfold bst at step
          rw [if_neg (by intro q; exact c1 q.1)] at step
          exact step
        · unfold wq_X4_isAlive_53
          refine ⟨fun _ => ?_, fun q => absurd rfl q⟩
          rw [forall_eq, nI_1]
          unfold bst at step
          rw [if_neg (by intro q; omega)] at step
          exact step
        · refine r_isIn hne (by omega) ?_
          rw [b01_0]
          refine ⟨fun c3 => ?_, fun c3 => ?_⟩
          · unfold wq_X4_isAlive_53
            refine ⟨fun _ => ?_, fun q => absurd rfl q⟩
            rw [forall_eq, nI_1]
            unfold bst at step
            rw [if_neg (by intro q; have := q.2.2; simp at this; exact c3 this)] at step
            exact step
          · unfold wq_X4_isAlive_53
            refine ⟨fun q => absurd q (by decide), fun _ => ?_⟩
            unfold bst at step
            rw [if_pos ⟨c1, by omega, by simp [c3]⟩] at step
            simp only [fa_lit]
            refine ⟨fun c4 => ?_, fun c4 => ?_⟩
            · rw [oI_none _ hb31] at c4
              rw [c4] at step
              rw [forall_eq, nI_add]
              exact step
            · cases hb : bst ea en (fun e => !ne.testBit e) p j e with
              | none => rw [hb] at c4; exact absurd rfl c4
              | some b =>
                rw [hb] at step
                have hbn := bst_lt hb
                obtain ⟨⟨i1, i2, i3⟩, k1, k2, k3⟩ := hev b (by omega)
                refine ⟨vp_in_nI (by omega) (by omega), ?_⟩
                rw [forall_eq]
                refine ⟨vp_in_nI (by omega) (by omega), ?_⟩
                simp (disch := omega) only [oI, nI_clamp, e2, i2, nI_ltI]
                refine ⟨fun c5 => ?_, fun c5 => ?_⟩
                · rw [forall_eq, nI_add]
                  simp only [if_neg (show ¬ ea b ≤ ea e by omega)] at step
                  exact step
                · rw [forall_eq, nI_add]
                  simp only [if_pos (show ea b ≤ ea e by omega)] at step
                  exact step
  refine ⟨n + 1, key _ ?_ (n + 1) 0 (by omega) (by omega)⟩
  have hb31 : ∀ x, bst ea en (fun e => !ne.testBit e) p j n = some x → x < 2 ^ 31 := fun x hx => by have := bst_lt hx; omega
  refine ⟨fun c => ?_, fun c => ?_⟩
  · cases hd : dd with
    | none => rw [hd] at c; exact absurd c (q_m1 j hj)
    | some d =>
      rw [hd] at c h
      have : j = d := (nI_eq hj (hdd d hd)).mp c
      subst this
      simp at h
      exact h
  · have hd : dd ≠ some j := fun e => c (by rw [e]; rfl)
    rw [decide_eq_true hd, Bool.true_and] at h
    simp only [fa_lit]
    refine ⟨fun c1 => ?_, fun c1 => ?_⟩
    · rw [oI_none _ hb31] at c1
      simp only [alv, c1] at h
      exact h
    · cases hb : bst ea en (fun e => !ne.testBit e) p j n with
      | none => rw [hb] at c1; exact absurd rfl c1
      | some b =>
        have hbn := bst_lt hb
        obtain ⟨⟨i1, i2, i3⟩, k1, k2, k3⟩ := hev b hbn
        simp only [alv, hb] at h
        refine ⟨vp_in_nI (by omega) (by omega), ?_⟩
        simp (disch := omega) only [oI, nI_clamp, i1, forall_eq, nI_eq]
        refine ⟨fun c2 => ?_, fun c2 => ?_⟩
        · rw [decide_eq_false c2] at h; exact h
        · rw [decide_eq_true c2] at h; exact h
