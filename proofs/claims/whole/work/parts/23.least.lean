/-! the reference's way: the most that any set of dots lacks -/
def hasR (s : Nat → Nat) (S : Nat) : Bool := decide (0 < fb_ct (fun x => S.testBit x && decide (x < 8 - s 7)) 8)
def hasL (s : Nat → Nat) (S : Nat) : Bool := decide (0 < fb_ct (fun x => S.testBit x && decide (s 7 ≤ x)) 8)
def nbr (s : Nat → Nat) (al : Nat → Nat → Bool) (y S : Nat) : Nat := (if hasR s S = true then nR s al y else 0) + (if hasL s S = true then nL s al y else 0)
def lck (s : Nat → Nat) (al : Nat → Nat → Bool) (d y S : Nat) : Nat := if d &&& S = S then pcn S - s 5 * nbr s al y S else 0
theorem ct_pos {P : Nat → Bool} {n : Nat} (h : 0 < fb_ct P n) : ∃ k, k < n ∧ P k = true := by
  rcases Classical.em (∃ k, k < n ∧ P k = true) with q | q
  · exact q
  · exfalso
    have : fb_ct P n = 0 := fb_ct_zero.mpr (fun k hk => by
      cases e : P k with
      | false => rfl
      | true => exact absurd ⟨k, hk, e⟩ q)
    omega
theorem pos_ct {P : Nat → Bool} {n k : Nat} (hk : k < n) (h : P k = true) : 0 < fb_ct P n := by
  rcases Nat.eq_zero_or_pos (fb_ct P n) with q | q
  · have := fb_ct_zero.mp q k hk
    rw [this] at h; cases h
  · exact q
theorem hasR_iff {s : Nat → Nat} {S : Nat} : hasR s S = true ↔ ∃ x, x < 8 ∧ S.testBit x = true ∧ x < 8 - s 7 := by
  unfold hasR
  rw [decide_eq_true_eq]
  constructor
  · intro h
    obtain ⟨k, h1, h2⟩ := ct_pos h
    rw [Bool.and_eq_true, decide_eq_true_eq] at h2
    exact ⟨k, h1, h2⟩
  · rintro ⟨k, h1, h2⟩
    exact pos_ct h1 (by rw [Bool.and_eq_true, decide_eq_true_eq]; exact h2)
theorem hasL_iff {s : Nat → Nat} {S : Nat} : hasL s S = true ↔ ∃ x, x < 8 ∧ S.testBit x = true ∧ s 7 ≤ x := by
  unfold hasL
  rw [decide_eq_true_eq]
  constructor
  · intro h
    obtain ⟨k, h1, h2⟩ := ct_pos h
    rw [Bool.and_eq_true, decide_eq_true_eq] at h2
    exact ⟨k, h1, h2⟩
  · rintro ⟨k, h1, h2⟩
    exact pos_ct h1 (by rw [Bool.and_eq_true, decide_eq_true_eq]; exact h2)
theorem sub_bit {d S : Nat} (h : d &&& S = S) {x : Nat} (hx : S.testBit x = true) : d.testBit x = true := by
  rw [← h, Nat.testBit_and, Bool.and_eq_true] at hx
  exact hx.1
theorem ct_mono {P Q : Nat → Bool} : ∀ n, (∀ k, k < n → P k = true → Q k = true) → fb_ct P n ≤ fb_ct Q n := by
  intro n
  induction n with
  | zero => intro _; exact Nat.le_refl _
  | succ n ih =>
    intro h
    rw [fb_ct_succ, fb_ct_succ]
    have := ih (fun k hk => h k (by omega))
    have h2 := h n (by omega)
    by_cases p : P n = true
    · rw [if_pos p, if_pos (h2 p)]; omega
    · rw [if_neg p]; omega
theorem has_of {s : Nat → Nat} (h7 : s 7 ≤ 3) (S : Nat) : (0 < cF s S → hasR s S = true) ∧ (0 < cL s S → hasL s S = true) ∧ (0 < cM s S → hasR s S = true ∧ hasL s S = true) := by
  refine ⟨fun h => ?_, fun h => ?_, fun h => ?_⟩
  · obtain ⟨k, hk, h2⟩ := ct_pos h
    simp only [Bool.and_eq_true, kF, decide_eq_true_eq] at h2
    exact hasR_iff.mpr ⟨k, hk, h2.1, by omega⟩
  · obtain ⟨k, hk, h2⟩ := ct_pos h
    simp only [Bool.and_eq_true, kL, decide_eq_true_eq] at h2
    exact hasL_iff.mpr ⟨k, hk, h2.1, by omega⟩
  · obtain ⟨k, hk, h2⟩ := ct_pos h
    simp only [Bool.and_eq_true, kM, decide_eq_true_eq] at h2
    exact ⟨hasR_iff.mpr ⟨k, hk, h2.1, by omega⟩, hasL_iff.mpr ⟨k, hk, h2.1, by omega⟩⟩
theorem lck_le {s : Nat → Nat} (h7 : s 7 ≤ 3) {al : Nat → Nat → Bool} {d y S : Nat} (hS : S < 256) : lck s al d y S ≤ fw s al (s 5) d y := by
  unfold lck
  by_cases c : d &&& S = S
  · rw [if_pos c]
    have k0 := cut3 s h7 S
    rw [c8_12 hS] at k0
    have m1 : cF s S ≤ cF s d := ct_mono 8 (fun k _ h => by simp only [Bool.and_eq_true] at h ⊢; exact ⟨sub_bit c h.1, h.2⟩)
    have m2 : cL s S ≤ cL s d := ct_mono 8 (fun k _ h => by simp only [Bool.and_eq_true] at h ⊢; exact ⟨sub_bit c h.1, h.2⟩)
    have m3 : cM s S ≤ cM s d := ct_mono 8 (fun k _ h => by simp only [Bool.and_eq_true] at h ⊢; exact ⟨sub_bit c h.1, h.2⟩)
    obtain ⟨g1, g2, g3⟩ := has_of h7 S
    unfold nbr fw few
    rw [Nat.mul_add]
    by_cases r : hasR s S = true
    · rw [if_pos r]
      by_cases l : hasL s S = true
      · rw [if_pos l]; omega
      · rw [if_neg l, Nat.mul_zero]
        have : cL s S = 0 := by
          rcases Nat.eq_zero_or_pos (cL s S) with q | q
          · exact q
          · exact absurd (g2 q) l
        have : cM s S = 0 := by
          rcases Nat.eq_zero_or_pos (cM s S) with q | q
          · exact q
          · exact absurd (g3 q).2 l
        omega
    · rw [if_neg r, Nat.mul_zero]
      have : cF s S = 0 := by
        rcases Nat.eq_zero_or_pos (cF s S) with q | q
        · exact q
        · exact absurd (g1 q) r
      have : cM s S = 0 := by
        rcases Nat.eq_zero_or_pos (cM s S) with q | q
        · exact q
        · exact absurd (g3 q).1 r
      by_cases l : hasL s S = true
      · rw [if_pos l]; omega
      · rw [if_neg l, Nat.mul_zero]
        have : cL s S = 0 := by
          rcases Nat.eq_zero_or_pos (cL s S) with q | q
          · exact q
          · exact absurd (g2 q) l
        omega
  · rw [if_neg c]; exact Nat.zero_le _
theorem nbr_le (s : Nat → Nat) (al : Nat → Nat → Bool) (y S : Nat) : nbr s al y S ≤ nR s al y + nL s al y := by
  unfold nbr
  by_cases r : hasR s S = true <;> by_cases l : hasL s S = true <;> simp [r, l]
/-- the part of d in the columns of a mask -/
theorem q_part : ∀ e, e < 4 → ∀ d, d < 256 → (d &&& (d % 2 ^ e) = d % 2 ^ e ∧ (d &&& (d / 2 ^ (8 - e) * 2 ^ (8 - e)) = d / 2 ^ (8 - e) * 2 ^ (8 - e))) ∧ (d / 2 ^ (8 - e) * 2 ^ (8 - e) < 256) ∧ pcn (d / 2 ^ (8 - e) * 2 ^ (8 - e)) = pcn (d / 2 ^ (8 - e)) ∧ (d &&& (d % 2 ^ e + d / 2 ^ (8 - e) * 2 ^ (8 - e)) = d % 2 ^ e + d / 2 ^ (8 - e) * 2 ^ (8 - e)) ∧ pcn (d % 2 ^ e + d / 2 ^ (8 - e) * 2 ^ (8 - e)) = pcn (d % 2 ^ e) + pcn (d / 2 ^ (8 - e)) ∧ d % 2 ^ e + d / 2 ^ (8 - e) * 2 ^ (8 - e) < 256 := by decide +kernel
theorem q_parth : ∀ e, e < 4 → ∀ d, d < 256 → (∀ x, x < 8 → (d % 2 ^ e).testBit x = true → x < e) ∧ (∀ x, x < 8 → (d / 2 ^ (8 - e) * 2 ^ (8 - e)).testBit x = true → 8 - e ≤ x) := by decide +kernel
theorem lck_at {s : Nat → Nat} (h7 : s 7 ≤ 3) {al : Nat → Nat → Bool} {d y : Nat} (hd : d < 256) : ∃ S, S < 256 ∧ fw s al (s 5) d y ≤ lck s al d y S := by
  have k0 := cut3 s h7 d
  rw [c8_12 hd] at k0
  have k1 : pcn (d % 2 ^ s 7) = cF s d := q_cf1 (s 7) (by omega) d hd
  have k2 : pcn (d / 2 ^ (8 - s 7)) = cL s d := q_cf2 (s 7) (by omega) d hd
  obtain ⟨⟨e1, e2⟩, e3, e4, e5, e6, e7⟩ := q_part (s 7) (by omega) d hd
  obtain ⟨e8, e9⟩ := q_parth (s 7) (by omega) d hd
  by_cases m : 0 < cM s d - ((s 5 * nR s al y - cF s d) + (s 5 * nL s al y - cL s d))
  · refine ⟨d, hd, ?_⟩
    unfold lck
    rw [if_pos (Nat.and_self d)]
    have := Nat.mul_le_mul_left (s 5) (nbr_le s al y d)
    rw [Nat.mul_add] at this
    unfold fw few
    omega
  · by_cases f : cF s d ≤ s 5 * nR s al y
    · by_cases l : cL s d ≤ s 5 * nL s al y
      · exact ⟨0, by decide, by unfold fw few; omega⟩
      · refine ⟨_, e3, ?_⟩
        unfold lck
        rw [if_pos e2, e4, k2]
        have : nbr s al y (d / 2 ^ (8 - s 7) * 2 ^ (8 - s 7)) ≤ nL s al y := by
          unfold nbr
          rw [if_neg (show ¬ hasR s (d / 2 ^ (8 - s 7) * 2 ^ (8 - s 7)) = true from fun q => by
            obtain ⟨x, h1, h2, h3⟩ := hasR_iff.mp q
            have := e9 x h1 h2
            omega)]
          by_cases l : hasL s (d / 2 ^ (8 - s 7) * 2 ^ (8 - s 7)) = true <;> simp [l]
        have := Nat.mul_le_mul_left (s 5) this
        unfold fw few
        omega
    · by_cases l : cL s d ≤ s 5 * nL s al y
      · refine ⟨d % 2 ^ s 7, by have := Nat.mod_le d (2 ^ s 7); omega, ?_⟩
        unfold lck
        rw [if_pos e1, k1]
        have : nbr s al y (d % 2 ^ s 7) ≤ nR s al y := by
          unfold nbr
          rw [if_neg (show ¬ hasL s (d % 2 ^ s 7) = true from fun q => by
            obtain ⟨x, h1, h2, h3⟩ := hasL_iff.mp q
            have := e8 x h1 h2
            omega)]
          by_cases l : hasR s (d % 2 ^ s 7) = true <;> simp [l]
        have := Nat.mul_le_mul_left (s 5) this
        unfold fw few
        omega
      · refine ⟨_, e7, ?_⟩
        unfold lck
        rw [if_pos e5, e6, k1, k2]
        have := Nat.mul_le_mul_left (s 5) (nbr_le s al y (d % 2 ^ s 7 + d / 2 ^ (8 - s 7) * 2 ^ (8 - s 7)))
        rw [Nat.mul_add] at this
        unfold fw few
        omega
/-- the sets of hits -/
def AbOk (s : Nat → Nat) (al : Nat → Nat → Bool) (y n x : Nat) (v : Int32) : Prop := ∃ a, a < 4096 ∧ v = nI a ∧ ∀ i, a.testBit i = (decide (i < n) && cni s al y i x)
theorem r_able_loop {s : Nat → Nat} {al : Nat → Nat → Bool} {y x : Nat} {ab : Nat → Int32} {f_this_events : Int32} {f_this_notEvents : Int32} {f_this_deadNow : Int32} {c_this_eventKind : Nat → Int32} {c_this_eventAt : Nat → Int32} {c_this_eventNozzle : Nat → Int32} {c_this_dots : Nat → Int32} {c_this_now : Nat → Int32} {c_this_hitMany : Nat → Int32} {c_this_hitPass : Nat → Int32} {c_this_hitNozzle : Nat → Int32} {x2 : Int32} {post : Int32 → ((Nat → Int32)) → Prop} {Ke_65 : (Nat → Int32) → Prop} (hh : Hd s c_this_now) (hA : RAlv al f_this_events f_this_notEvents f_this_deadNow c_this_eventKind c_this_eventAt c_this_eventNozzle) (hH : RefH s c_this_hitMany c_this_hitPass c_this_hitNozzle) (hy : y < 16) (hx : x < 8) (hK : ∀ c, (∀ k, k ≠ x → c k = ab k) → AbOk s al y (hs s y).length x (c x) → Ke_65 c) : ∀ (m k : Nat) (c : Nat → Int32), k ≤ (hs s y).length → (hs s y).length - k < m → (∀ k, k ≠ x → c k = ab k) → AbOk s al y k x (c x) → wq_X4_leastIn_20 f_this_events f_this_notEvents f_this_deadNow c_this_eventKind c_this_eventAt c_this_eventNozzle c_this_dots c_this_now c_this_hitMany c_this_hitPass c_this_hitNozzle (nI y) x2 (nI x) post Ke_65 m (nI k) c := by
  have H := hh.1
  have hl12 := hs_len12 H y
  intro m
  induction m with
  | zero => intro k c g1 g2; omega
  | succ m ih =>
    intro k c g1 g2 h1 h2
    unfold wq_X4_leastIn_20
    refine ⟨vp_in_nI hy (by omega), ?_⟩
    rw [nI_clamp (by omega), hH.cnt hy]
    simp (disch := omega) only [nI_leI]
    refine ⟨fun q => ?_, fun q => ?_⟩
    · have e : k = (hs s y).length := by omega
      subst e; exact hK c h1 h2
    · obtain ⟨w, hw⟩ := hs_get (s := s) (y := y) (i := k) (by omega)
      obtain ⟨b1, b2, b3, b4⟩ := hs_bd H hw
      obtain ⟨a, ha, hv, hb⟩ := h2
      refine ⟨vp_in_nI hx (by omega), ?_⟩
      rw [forall_eq, nI_clamp (by omega), hv]
      refine r_isAble hh hA hH hy hx hw ?_
      have hcni : cni s al y k x = can s al w x := by unfold cni; rw [hw]
      rw [b01_0]
      simp only [forall_eq, fa_lit, fa_or, Nat.or_zero]
      rw [nI_add]
      refine ⟨fun cq => ⟨vp_in_nI hx (by omega), ih (k + 1) _ (by omega) (by omega) (fun i hi => by rw [pk_un hi]; exact h1 i hi) ?_⟩, fun cq => ?_⟩
      · rw [pk_us]
        refine ⟨a, ha, rfl, fun i => ?_⟩
        rw [hb i]
        by_cases e : i = k
        · subst e; rw [hcni, cq]; simp
        · have : decide (i < k + 1) = decide (i < k) := by simp only [decide_eq_decide]; omega
          rw [this]
      · have cq : can s al w x = true := by cases e : can s al w x with
          | false => exact absurd e cq
          | true => rfl
        have hp : 2 ^ k < 2 ^ 12 := Nat.pow_lt_pow_right (by decide) (by omega)
        rw [q_shl (by omega) (by omega), Nat.one_mul, fa_or]
        refine ⟨vp_in_nI hx (by omega), ih (k + 1) _ (by omega) (by omega) (fun i hi => by rw [pk_un hi]; exact h1 i hi) ?_⟩
        rw [pk_us]
        refine ⟨a ||| 2 ^ k, Nat.or_lt_two_pow (n := 12) ha hp, rfl, fun i => ?_⟩
        rw [tb_or, hb i]
        by_cases e : i = k
        · subst e; rw [hcni, cq]; simp
        · have : decide (i < k + 1) = decide (i < k) := by simp only [decide_eq_decide]; omega
          rw [this, decide_eq_false e, Bool.or_false]
theorem r_ables {s : Nat → Nat} {al : Nat → Nat → Bool} {y : Nat} {f_this_events : Int32} {f_this_notEvents : Int32} {f_this_deadNow : Int32} {c_this_eventKind : Nat → Int32} {c_this_eventAt : Nat → Int32} {c_this_eventNozzle : Nat → Int32} {c_this_dots : Nat → Int32} {c_this_now : Nat → Int32} {c_this_hitMany : Nat → Int32} {c_this_hitPass : Nat → Int32} {c_this_hitNozzle : Nat → Int32} {x2 : Int32} {post : Int32 → ((Nat → Int32)) → Prop} {Ke_71 : (Nat → Int32) → Prop} (hh : Hd s c_this_now) (hA : RAlv al f_this_events f_this_notEvents f_this_deadNow c_this_eventKind c_this_eventAt c_this_eventNozzle) (hH : RefH s c_this_hitMany c_this_hitPass c_this_hitNozzle) (hy : y < 16) (hK : ∀ c, (∀ x, x < 8 → AbOk s al y (hs s y).length x (c x)) → Ke_71 c) : ∀ (m k : Nat) (c : Nat → Int32), k ≤ 8 → 8 - k < m → (∀ x, x < k → AbOk s al y (hs s y).length x (c x)) → wq_X4_leastIn_4 f_this_events f_this_notEvents f_this_deadNow c_this_eventKind c_this_eventAt c_this_eventNozzle c_this_dots c_this_now c_this_hitMany c_this_hitPass c_this_hitNozzle (nI y) x2 post Ke_71 m (nI k) c := by
  intro m
  induction m with
  | zero => intro k c g1 g2; omega
  | succ m ih =>
    intro k c g1 g2 h1
    unfold wq_X4_leastIn_4
    simp (disch := omega) only [fa_lit, nI_leI]
    refine ⟨fun q => hK c (fun x hx => h1 x (by omega)), fun q => ⟨vp_in_nI (by omega) (by omega), ?_⟩⟩
    refine ⟨(hs s y).length + 1, r_able_loop (ab := c) hh hA hH hy (by omega) (fun c' h2 h3 => ?_) _ 0 _ (by omega) (by omega) (fun i hi => by rw [nI_clamp (by omega), pk_un hi]) ?_⟩
    · rw [forall_eq, nI_add]
      refine ih (k + 1) c' (by omega) (by omega) (fun x hx => ?_)
      by_cases e : x = k
      · subst e; exact h3
      · rw [h2 x e]; exact h1 x (by omega)
    · rw [nI_clamp (by omega), pk_us]
      exact ⟨0, by decide, rfl, fun i => by rw [Nat.zero_testBit]; simp⟩
/-- the hits of a set -/
theorem r_by_loop {s : Nat → Nat} {al : Nat → Nat → Bool} {y S : Nat} {f_this_events : Int32} {f_this_notEvents : Int32} {f_this_deadNow : Int32} {c_this_eventKind : Nat → Int32} {c_this_eventAt : Nat → Int32} {c_this_eventNozzle : Nat → Int32} {c_this_dots : Nat → Int32} {c_this_now : Nat → Int32} {c_this_hitMany : Nat → Int32} {c_this_hitPass : Nat → Int32} {c_this_hitNozzle : Nat → Int32} {x1 : Int32} {x2 : Int32} {c_this_able : Nat → Int32} {post : Int32 → ((Nat → Int32)) → Prop} {Ke_124 : Int32 → Prop} (hS : S < 256) (hab : ∀ x, x < 8 → AbOk s al y (hs s y).length x (c_this_able x)) (hK : ∀ a, a < 4096 → (∀ i, a.testBit i = true ↔ ∃ x, x < 8 ∧ S.testBit x = true ∧ i < (hs s y).length ∧ cni s al y i x = true) → Ke_124 (nI a)) : ∀ (m k a : Nat), k ≤ 8 → 8 - k < m → a < 4096 → (∀ i, a.testBit i = true ↔ ∃ x, x < k ∧ S.testBit x = true ∧ i < (hs s y).length ∧ cni s al y i x = true) → wq_X4_leastIn_86 f_this_events f_this_notEvents f_this_deadNow c_this_eventKind c_this_eventAt c_this_eventNozzle c_this_dots c_this_now c_this_hitMany c_this_hitPass c_this_hitNozzle x1 x2 (nI S) c_this_able post Ke_124 m (nI a) (nI k) := by
  intro m
  induction m with
  | zero => intro k a g1 g2; omega
  | succ m ih =>
    intro k a g1 g2 ha hb
    unfold wq_X4_leastIn_86
    simp (disch := omega) only [fa_lit, nI_leI]
    refine ⟨fun q => ?_, fun q => ?_⟩
    · have e : k = 8 := by omega
      subst e; exact hK a ha hb
    · refine r_isIn (by omega) (by omega) ?_
      rw [show (nI 0 : Int32) = 0 from rfl, b01_0]
      simp only [forall_eq, nI_add]
      rw [show (0 : Int32) = nI 0 from rfl, fa_or, Nat.or_zero]
      refine ⟨fun c => ih (k + 1) a (by omega) (by omega) ha (fun i => ?_), fun c => ⟨vp_in_nI (by omega) (by omega), ?_⟩⟩
      · rw [hb i]
        constructor
        · rintro ⟨x, h1, h2⟩; exact ⟨x, by omega, h2⟩
        · rintro ⟨x, h1, h2⟩
          refine ⟨x, ?_, h2⟩
          by_cases e : x = k
          · subst e; rw [c] at h2; exact absurd h2.1 (by decide)
          · omega
      · have c : S.testBit k = true := by cases e : S.testBit k with
          | false => exact absurd e c
          | true => rfl
        obtain ⟨b, hb1, hb2, hb3⟩ := hab k (by omega)
        rw [nI_clamp (by omega), hb2, fa_or]
        refine ih (k + 1) (a ||| b) (by omega) (by omega) (Nat.or_lt_two_pow (n := 12) ha hb1) (fun i => ?_)
        rw [Nat.testBit_or, Bool.or_eq_true, hb i, hb3 i, Bool.and_eq_true, decide_eq_true_eq]
        constructor
        · rintro (⟨x, h1, h2⟩ | h2)
          · exact ⟨x, by omega, h2⟩
          · exact ⟨k, by omega, c, h2⟩
        · rintro ⟨x, h1, h2⟩
          by_cases e : x = k
          · subst e; exact Or.inr h2.2
          · exact Or.inl ⟨x, by omega, h2⟩
theorem by_pcn {s : Nat → Nat} (H : Hok s) {al : Nat → Nat → Bool} {y S a : Nat} (h : ∀ i, a.testBit i = true ↔ ∃ x, x < 8 ∧ S.testBit x = true ∧ i < (hs s y).length ∧ cni s al y i x = true) : pcn a = nbr s al y S := by
  have hl := hs_len12 H y
  have key : ∀ i, i < 12 → a.testBit i = ((RA s al y i && hasR s S) || (LA s al y i && hasL s S)) := by
    intro i _
    rw [Bool.eq_iff_iff, h i, Bool.or_eq_true, Bool.and_eq_true, Bool.and_eq_true, hasR_iff, hasL_iff]
    constructor
    · rintro ⟨x, h1, h2, h3, h4⟩
      rw [cni_eq, Bool.or_eq_true, Bool.and_eq_true, Bool.and_eq_true, decide_eq_true_eq, decide_eq_true_eq] at h4
      rcases h4 with h4 | h4
      · exact Or.inl ⟨h4.1, x, h1, h2, h4.2⟩
      · exact Or.inr ⟨h4.1, x, h1, h2, h4.2⟩
    · have hin : ∀ b, (RA s al y i = b ∨ LA s al y i = b) → b = true → i < (hs s y).length := by
        intro b hb e
        subst e
        rcases Nat.lt_or_ge i (hs s y).length with q | q
        · exact q
        · rw [RA, LA, List.getElem?_eq_none q] at hb
          rcases hb with hb | hb <;> cases hb
      rintro (⟨h1, x, h2, h3, h4⟩ | ⟨h1, x, h2, h3, h4⟩)
      · exact ⟨x, h2, h3, hin _ (Or.inl h1) rfl, by rw [cni_eq, h1, decide_eq_true h4]; rfl⟩
      · exact ⟨x, h2, h3, hin _ (Or.inr h1) rfl, by rw [cni_eq, h1, decide_eq_true h4]; simp⟩
  have ext : ∀ (P : Nat → Bool), (∀ i, (hs s y).length ≤ i → P i = false) → fb_ct P 12 = fb_ct P (hs s y).length := by
    intro P hP
    have : ∀ n, (hs s y).length ≤ n → fb_ct P n = fb_ct P (hs s y).length := by
      intro n hn
      induction n with
      | zero => rw [show (hs s y).length = 0 by omega]
      | succ n ih =>
        by_cases e : (hs s y).length = n + 1
        · rw [e]
        · rw [fb_ct_succ, ih (by omega), hP n (by omega)]; rfl
    exact this 12 hl
  have kf : ∀ (P : Nat → Bool) (b : Bool), (∀ i, (hs s y).length ≤ i → P i = false) → fb_ct (fun i => P i && b) 12 = if b = true then fb_ct P (hs s y).length else 0 := by
    intro P b hP
    cases b with
    | true => simp only [Bool.and_true, if_pos]; exact ext P hP
    | false => rw [if_neg (by decide)]; exact fb_ct_zero.mpr (fun k _ => Bool.and_false _)
  have z1 : ∀ i, (hs s y).length ≤ i → RA s al y i = false := fun i hi => by rw [RA, List.getElem?_eq_none hi]
  have z2 : ∀ i, (hs s y).length ≤ i → LA s al y i = false := fun i hi => by rw [LA, List.getElem?_eq_none hi]
  have e1 := kf (RA s al y) (hasR s S) z1
  have e2 := kf (LA s al y) (hasL s S) z2
  unfold pcn nbr nR nL
  rw [← e1, ← e2, ← fb_ct_or (fun k _ q => ra_la (s := s) (al := al) (y := y) (i := k) ⟨(by have := q.1; rw [Bool.and_eq_true] at this; exact this.1), (by have := q.2; rw [Bool.and_eq_true] at this; exact this.1)⟩)]
  exact fb_ct_cong (fun k hk => key k hk)

/-- a set that is no part of d -/
theorem q_andn0 {a d : Nat} (ha : a < 2 ^ 31) : (nI a &&& (nI d ^^^ (-1 : Int32)) = 0) ↔ d &&& a = a := by
  rw [q_andn]
  have hlt : a ^^^ (a &&& d) < 2 ^ 31 := Nat.xor_lt_two_pow ha (Nat.lt_of_le_of_lt Nat.and_le_left ha)
  have hz : (nI (a ^^^ (a &&& d)) = 0) ↔ a ^^^ (a &&& d) = 0 := by
    rw [show (0 : Int32) = nI 0 from rfl]
    exact nI_eq hlt (by decide)
  rw [hz]
  constructor
  · intro h
    rw [Nat.and_comm]
    refine Nat.eq_of_testBit_eq (fun i => ?_)
    have e := congrArg (fun z => Nat.testBit z i) h
    simp only [Nat.testBit_xor, Nat.zero_testBit] at e
    rw [← Bool.xor_false ((a &&& d).testBit i), ← e]
    cases a.testBit i <;> cases (a &&& d).testBit i <;> rfl
  · intro h
    rw [Nat.and_comm] at h
    rw [h, Nat.xor_self]
def mxl (s : Nat → Nat) (al : Nat → Nat → Bool) (d y : Nat) : Nat → Nat
  | 0 => 0
  | k + 1 => if lck s al d y k ≤ mxl s al d y k then mxl s al d y k else lck s al d y k
theorem mxl_ge {s : Nat → Nat} {al : Nat → Nat → Bool} {d y : Nat} : ∀ {n k : Nat}, k < n → lck s al d y k ≤ mxl s al d y n := by
  intro n
  induction n with
  | zero => intro k h; omega
  | succ n ih =>
    intro k h
    unfold mxl
    by_cases e : k = n
    · subst e
      by_cases c : lck s al d y k ≤ mxl s al d y k
      · rw [if_pos c]; exact c
      · rw [if_neg c]; exact Nat.le_refl _
    · have := ih (k := k) (by omega)
      by_cases c : lck s al d y n ≤ mxl s al d y n
      · rw [if_pos c]; exact this
      · rw [if_neg c]; omega
theorem mxl_le {s : Nat → Nat} {al : Nat → Nat → Bool} {d y B : Nat} : ∀ {n : Nat}, (∀ k, k < n → lck s al d y k ≤ B) → mxl s al d y n ≤ B := by
  intro n
  induction n with
  | zero => intro _; exact Nat.zero_le _
  | succ n ih =>
    intro h
    unfold mxl
    by_cases c : lck s al d y n ≤ mxl s al d y n
    · rw [if_pos c]; exact ih (fun k hk => h k (by omega))
    · rw [if_neg c]; exact h n (by omega)
theorem mxl_fw {s : Nat → Nat} (h7 : s 7 ≤ 3) {al : Nat → Nat → Bool} {d y : Nat} (hd : d < 256) : mxl s al d y 256 = fw s al (s 5) d y := by
  refine Nat.le_antisymm (mxl_le (fun k hk => lck_le h7 hk)) ?_
  obtain ⟨S, h1, h2⟩ := lck_at (al := al) (y := y) h7 hd
  exact Nat.le_trans h2 (mxl_ge h1)
theorem lck_0 {s : Nat → Nat} {al : Nat → Nat → Bool} {d y : Nat} : lck s al d y 0 = 0 := by
  unfold lck; rw [pcn_0, Nat.zero_sub]; by_cases c : d &&& 0 = 0 <;> simp
theorem r_set_loop {s : Nat → Nat} {al : Nat → Nat → Bool} {y d : Nat} {f_this_events : Int32} {f_this_notEvents : Int32} {f_this_deadNow : Int32} {c_this_eventKind : Nat → Int32} {c_this_eventAt : Nat → Int32} {c_this_eventNozzle : Nat → Int32} {c_this_dots : Nat → Int32} {c_this_now : Nat → Int32} {c_this_hitMany : Nat → Int32} {c_this_hitPass : Nat → Int32} {c_this_hitNozzle : Nat → Int32} {c_this_able : Nat → Int32} {post : Int32 → ((Nat → Int32)) → Prop} {Ke_179 : Int32 → Prop} (hh : Hd s c_this_now) (hy : y < 16) (hd : d < 256) (hdots : c_this_dots y = nI d) (hab : ∀ x, x < 8 → AbOk s al y (hs s y).length x (c_this_able x)) (hK : Ke_179 (nI (fw s al (s 5) d y))) : ∀ (m k : Nat), k ≤ 256 → 256 - k < m → wq_X4_leastIn_73 f_this_events f_this_notEvents f_this_deadNow c_this_eventKind c_this_eventAt c_this_eventNozzle c_this_dots c_this_now c_this_hitMany c_this_hitPass c_this_hitNozzle (nI y) c_this_able post Ke_179 m (nI (mxl s al d y k)) (nI k) := by
  have H := hh.1
  obtain ⟨a0, a1, a2, a3, a4, a5, a6, a7, a8⟩ := id H
  intro m
  induction m with
  | zero => intro k g1 g2; omega
  | succ m ih =>
    intro k g1 g2
    unfold wq_X4_leastIn_73
    simp (disch := omega) only [fa_lit, nI_leI]
    refine ⟨fun q => ?_, fun q => ?_⟩
    · have e : k = 256 := by omega
      subst e; rw [mxl_fw a7 hd]; exact hK
    · refine ⟨9, r_by_loop (S := k) (s := s) (al := al) (by omega) hab (fun a ha hb => ?_) 9 0 0 (by omega) (by omega) (by decide) (fun i => ?_)⟩
      · have st := ih (k + 1) (by omega) (by omega)
        unfold mxl at st
        refine ⟨vp_in_nI hy (by omega), ?_⟩
        rw [forall_eq, nI_clamp (by omega), hdots]
        have hm8 : mxl s al d y k ≤ 8 := Nat.le_trans (mxl_le (fun j hj => lck_le (s := s) a7 (by omega))) (fw_le a7)
        rw [show (nI 0 : Int32) = 0 from rfl, show (-nI 1 : Int32) = -1 from rfl, q_andn0 (by omega)]
        refine ⟨fun c => ?_, fun c => ?_⟩
        · unfold wq_X4_leastIn_158
          have e : lck s al d y k = 0 := by unfold lck; rw [if_neg c]
          rw [e, if_pos (Nat.zero_le _)] at st
          rw [forall_eq, forall_eq, nI_1]
          exact ⟨fun _ => st, fun q => absurd (nI_pos' (by omega)) q⟩
        · refine r_many (by omega) ?_
          rw [forall_eq]
          refine r_many (by omega) ?_
          rw [forall_eq, hh.at 5 (by omega) (by omega), pk_mul, by_pcn H hb]
          have e : lck s al d y k = pcn k - s 5 * nbr s al y k := by unfold lck; rw [if_pos c]
          rw [e] at st
          have u1 := nbr_le s al y k
          have u2 : nR s al y ≤ 12 := Nat.le_trans (fb_ct_le _ _) (hs_len12 H y)
          have u3 : nL s al y ≤ 12 := Nat.le_trans (fb_ct_le _ _) (hs_len12 H y)
          have u4 : s 5 * nbr s al y k ≤ 8 * 24 := Nat.mul_le_mul a5.2 (by omega)
          have u5 := pcn_le k
          unfold wq_X4_leastIn_158
          rw [forall_eq, forall_eq, nI_1]
          rcases Nat.lt_or_ge (pcn k) (s 5 * nbr s al y k) with q1 | q1
          · have hn := pk_sneg (by omega) q1
            rw [show pcn k - s 5 * nbr s al y k = 0 by omega, if_pos (Nat.zero_le _)] at st
            refine ⟨fun _ => st, fun q2 => absurd (Int32.le_of_lt (Int32.lt_of_lt_of_le hn (nI_pos' (by omega)))) q2⟩
          · rw [pk_sub q1, nI_leI (by omega) (by omega)]
            refine ⟨fun q2 => ?_, fun q2 => ?_⟩
            · rw [if_pos q2] at st; exact st
            · rw [if_neg q2] at st; exact st
      · rw [Nat.zero_testBit]
        constructor
        · intro h; cases h
        · rintro ⟨x, h, _⟩; omega
theorem r_leastIn {s : Nat → Nat} {al : Nat → Nat → Bool} {y d : Nat} {f_this_events : Int32} {f_this_notEvents : Int32} {f_this_deadNow : Int32} {c_this_eventKind : Nat → Int32} {c_this_eventAt : Nat → Int32} {c_this_eventNozzle : Nat → Int32} {c_this_dots : Nat → Int32} {c_this_now : Nat → Int32} {c_this_hitMany : Nat → Int32} {c_this_hitPass : Nat → Int32} {c_this_hitNozzle : Nat → Int32} {c_this_able : Nat → Int32} {post : Int32 → ((Nat → Int32)) → Prop} (hh : Hd s c_this_now) (hA : RAlv al f_this_events f_this_notEvents f_this_deadNow c_this_eventKind c_this_eventAt c_this_eventNozzle) (hH : RefH s c_this_hitMany c_this_hitPass c_this_hitNozzle) (hy : y < 16) (hd : d < 256) (hdots : c_this_dots y = nI d) (h : ∀ u, post (nI (fw s al (s 5) d y)) u) : wp_X4_leastIn (nI y) f_this_events f_this_notEvents f_this_deadNow c_this_eventKind c_this_eventAt c_this_eventNozzle c_this_dots c_this_now c_this_hitMany c_this_hitPass c_this_hitNozzle c_this_able post := by
  unfold wp_X4_leastIn
  refine ⟨9, r_ables hh hA hH hy (fun c hc => ?_) 9 0 _ (by omega) (by omega) (fun x hx => by omega)⟩
  have e1 : mxl s al d y 1 = 0 := by unfold mxl; rw [lck_0]; rfl
  have key := r_set_loop (post := post) (Ke_179 := fun e => post e c) (f_this_events := f_this_events) (f_this_notEvents := f_this_notEvents) (f_this_deadNow := f_this_deadNow) (c_this_eventKind := c_this_eventKind) (c_this_eventAt := c_this_eventAt) (c_this_eventNozzle := c_this_eventNozzle) (c_this_hitMany := c_this_hitMany) (c_this_hitPass := c_this_hitPass) (c_this_hitNozzle := c_this_hitNozzle) hh hy hd hdots hc (h c) 257 1 (by omega) (by omega)
  rw [e1] at key
  exact ⟨257, key⟩
