/-! what had better not be: spare -/
def cbn (n ne : Nat) : Nat := (2 ^ n - 1) ^^^ ((2 ^ n - 1) &&& ne)
theorem cbn_bit {n ne e : Nat} (h : e < n) : (cbn n ne).testBit e = !ne.testBit e := by
  unfold cbn
  rw [Nat.testBit_xor, Nat.testBit_and, Nat.testBit_two_pow_sub_one, decide_eq_true h]
  cases ne.testBit e <;> rfl
theorem pw8 {n : Nat} (h : n ≤ 8) : 0 < 2 ^ n ∧ 2 ^ n ≤ 256 := ⟨Nat.pow_pos (by decide), (show 2 ^ n ≤ 2 ^ 8 from Nat.pow_le_pow_right (by decide) h)⟩
theorem cbn_lt {n ne : Nat} (h : n ≤ 8) : cbn n ne < 2 ^ n := by
  have := (pw8 h).1
  unfold cbn
  exact Nat.xor_lt_two_pow (by omega) (Nat.lt_of_le_of_lt Nat.and_le_left (by omega))
theorem s_all {n : Nat} {post : Int32 → Unit → Prop} (hn : n ≤ 8) (h : post (nI (2 ^ n - 1)) ()) : wp_X0_all (nI n) post := by
  unfold wp_X0_all
  have := pw8 hn
  simp only [forall_eq]
  rw [show (1 : Int32) = nI 1 from rfl, show (31 : Int32) = nI 31 from rfl, q_shl (by omega) (by omega), Nat.one_mul, pk_sub (by omega)]
  exact h
theorem q_but {n m : Nat} : nI (2 ^ n - 1) &&& (nI m ^^^ (-1 : Int32)) = nI (cbn n m) := q_andn _ _
theorem q_1sh {k : Nat} (h : k < 31) : (1 : Int32) <<< (nI k &&& 31) = nI (2 ^ k) := by
  have : 2 ^ k < 2 ^ 31 := Nat.pow_lt_pow_right (by decide) h
  rw [show (1 : Int32) = nI 1 from rfl, show (31 : Int32) = nI 31 from rfl, q_shl (by omega) (by omega), Nat.one_mul]
def safe (s d : Nat → Nat) (n : Nat) (ek ea en : Nat → Nat) (ne : Nat) : Bool := decide (sMiss s (alN n ek ea en ne) d = 0)
theorem sm_0 {f : Nat → Nat} : ∀ {n : Nat}, (∀ k, k < n → f k = 0) → fb_sm f n = 0 := by
  intro n
  induction n with
  | zero => intro _; rfl
  | succ n ih => intro h; rw [fb_sm_succ, ih (fun k hk => h k (by omega)), h n (by omega)]
theorem s_isSafe {s d : Nat → Nat} {n : Nat} {ek ea en : Nat → Nat} {cb ne : Nat} {c_this_told_picture : Nat → Int32} {c_this_told_head : Nat → Int32} {c_this_told_hitCount : Nat → Int32} {c_this_told_hitPlace : Nat → Int32} {f_this_events_size : Int32} {c_this_events_kinds : Nat → Int32} {c_this_events_passes : Nat → Int32} {c_this_events_nozzles : Nat → Int32} {c_this_living : Nat → Int32} {post : Int32 → ((Nat → Int32)) → Prop} (hh : Hd s c_this_told_head) (hp : PicOk d c_this_told_picture) (hH : ClsH s c_this_told_hitCount c_this_told_hitPlace) (hE : EvOk n ek ea en c_this_events_kinds c_this_events_passes c_this_events_nozzles) (hs' : f_this_events_size = nI n) (hcb : cb < 2 ^ 31) (hne : ∀ e, e < n → cb.testBit e = !ne.testBit e) (h : ∀ l, post (b01 (safe s d n ek ea en ne)) l) : wp_X3_isSafe (nI cb) c_this_told_picture c_this_told_head c_this_told_hitCount c_this_told_hitPlace f_this_events_size c_this_events_kinds c_this_events_passes c_this_events_nozzles c_this_living post := by
  have H := hh.1
  unfold wp_X3_isSafe
  rw [hs']
  refine s_livingBy hE hcb (fun l hL => ?_)
  rw [alv_cong (c2 := fun e => !ne.testBit e) hne] at hL
  have hL : LivOk (alN n ek ea en ne) l := hL
  have key : ∀ (m k : Nat), k ≤ 16 → 16 - k < m → (∀ y, y < k → (fin s (alN n ek ea en ne) (d y) y).2.2.2.1 = 0) → wq_X3_isSafe_14 c_this_told_picture c_this_told_head c_this_told_hitCount c_this_told_hitPlace (nI n) c_this_events_kinds c_this_events_passes c_this_events_nozzles l post (post 1 l) m (nI k) := by
    intro m
    induction m with
    | zero => intro k g1 g2; omega
    | succ m ih =>
      intro k g1 g2 hI
      unfold wq_X3_isSafe_14
      rw [show (16 : Int32) = nI 16 from rfl, nI_leI (by omega) (by omega)]
      refine ⟨fun q => ?_, fun q => ?_⟩
      · have e : safe s d n ek ea en ne = true := decide_eq_true (sm_0 (fun y hy => hI y (by omega)))
        have := h l
        rw [e] at this
        exact this
      · rw [forall_eq, hh.at 5 (by omega) (by omega)]
        refine s_fewestMissed hh hH hL (by omega) H.2.2.2.2.2.1.2 (hp k (by omega)).1 (hp k (by omega)).2 ?_
        have hfw := fw_le (s := s) H.2.2.2.2.2.2.2.1 (al := alN n ek ea en ne) (c := s 5) (d := d k) (y := k)
        rw [show (0 : Int32) = nI 0 from rfl, nI_leI (by omega) (by omega), forall_eq, nI_1]
        have em := fin_ms H (alN n ek ea en ne) (d k) k
        refine ⟨fun c => ih (k + 1) (by omega) (by omega) (fun y hy => ?_), fun c => ?_⟩
        · by_cases e : y = k
          · subst e; omega
          · exact hI y (by omega)
        · have e : safe s d n ek ea en ne = false := decide_eq_false (fun z => by
            have := fb_sm_zero z k (by omega)
            omega)
          have := h l
          rw [e] at this
          exact this
  exact ⟨17, key 17 0 (by omega) (by omega) (fun y hy => by omega)⟩
theorem r_isSpared {s d : Nat → Nat} {n : Nat} {ek ea en : Nat → Nat} {ne : Nat} {f_this_events : Int32} {f_this_notEvents : Int32} {f_this_deadNow : Int32} {f_this_allMissed : Int32} {f_this_allWanted : Int32} {f_this_allPrinted : Int32} {c_this_eventKind : Nat → Int32} {c_this_eventAt : Nat → Int32} {c_this_eventNozzle : Nat → Int32} {c_this_dots : Nat → Int32} {c_this_now : Nat → Int32} {c_this_hitMany : Nat → Int32} {c_this_hitPass : Nat → Int32} {c_this_hitNozzle : Nat → Int32} {c_this_hitPrints : Nat → Int32} {c_this_canMany : Nat → Int32} {c_this_printedBy : Nat → Int32} {c_this_missing : Nat → Int32} {c_this_prints : Nat → Int32} {c_this_gutter : Nat → Int32} {post : Int32 → (Int32 × Int32 × Int32 × Int32 × (Nat → Int32) × (Nat → Int32) × (Nat → Int32) × (Nat → Int32) × (Nat → Int32) × (Nat → Int32) × (Nat → Int32) × (Nat → Int32) × (Nat → Int32)) → Prop} (hh : Hd s c_this_now) (hp : PicOk d c_this_dots) (hE : EvOk n ek ea en c_this_eventKind c_this_eventAt c_this_eventNozzle) (hs' : f_this_events = nI n) (hne : ne < 2 ^ 31) (hdn : f_this_deadNow = -1) (h : ∀ u, post (b01 (safe s d n ek ea en ne)) u) : wp_X4_isSpared (nI ne) f_this_events f_this_notEvents f_this_deadNow f_this_allMissed f_this_allWanted f_this_allPrinted c_this_eventKind c_this_eventAt c_this_eventNozzle c_this_dots c_this_now c_this_hitMany c_this_hitPass c_this_hitNozzle c_this_hitPrints c_this_canMany c_this_printedBy c_this_missing c_this_prints c_this_gutter post := by
  unfold wp_X4_isSpared
  have hA := r_alN hE hne
  rw [← hs', ← hdn] at hA
  refine r_runs hh hA hp (fun aM aW aP hm hP hN hR cM pB mi pt gt hRun => ?_)
  dsimp only
  have e1 : aM = nI (sMiss s (alN n ek ea en ne) d) := by rw [hRun.2.1.1, sm16_stk]; rfl
  have t := tot_sum hh.1 (alN n ek ea en ne) (fun y hy => (hp y hy).2)
  have t2 := tot_le d
  rw [e1, show (0 : Int32) = nI 0 from rfl, nI_eq (by omega) (by omega)]
  refine ⟨fun c => ?_, fun c => ?_⟩
  · have e : safe s d n ek ea en ne = false := decide_eq_false c
    rw [e] at h; exact h _
  · have e : safe s d n ek ea en ne = true := decide_eq_true c
    rw [e] at h; exact h _
/-- the first that is so -/
def fnd (P : Nat → Bool) : Nat → Nat → Option Nat
  | 0, _ => none
  | r + 1, k => if P k = true then some k else fnd P r (k + 1)
def fnd2 (P : Nat → Nat → Bool) : Nat → Nat → Option (Nat × Nat)
  | 0, _ => none
  | r + 1, k => match fnd (P k) r (k + 1) with
    | some b => some (k, b)
    | none => fnd2 P r (k + 1)
def sp1 (s d : Nat → Nat) (n : Nat) (ek ea en : Nat → Nat) (a : Nat) : Bool := safe s d n ek ea en (2 ^ a)
def sp2 (s d : Nat → Nat) (n : Nat) (ek ea en : Nat → Nat) (a b : Nat) : Bool := safe s d n ek ea en (2 ^ a ||| 2 ^ b)
def spR (s d : Nat → Nat) (n : Nat) (ek ea en : Nat → Nat) : Option (List Nat) :=
  if safe s d n ek ea en 0 = true then some [] else match fnd (sp1 s d n ek ea en) n 0 with
    | some a => some [a]
    | none => match fnd2 (sp2 s d n ek ea en) n 0 with
      | some q => some [q.1, q.2]
      | none => none
theorem fnd_lt {P : Nat → Bool} : ∀ {r k a : Nat}, fnd P r k = some a → k ≤ a ∧ a < k + r := by
  intro r
  induction r with
  | zero => intro k a h; cases h
  | succ r ih =>
    intro k a h
    unfold fnd at h
    by_cases c : P k = true
    · rw [if_pos c] at h; cases h; omega
    · rw [if_neg c] at h; have := ih h; omega
theorem fnd2_lt {P : Nat → Nat → Bool} : ∀ {r k : Nat} {q : Nat × Nat}, fnd2 P r k = some q → q.1 < q.2 ∧ q.2 < k + r := by
  intro r
  induction r with
  | zero => intro k q h; cases h
  | succ r ih =>
    intro k q h
    unfold fnd2 at h
    cases e : fnd (P k) r (k + 1) with
    | some b => rw [e] at h; cases h; have := fnd_lt e; show k < b ∧ b < k + (r + 1); omega
    | none => rw [e] at h; have := ih h; omega
def spBits : Option (List Nat) → Int32
  | none => -1
  | some [] => 0
  | some [a] => nI (2 ^ a)
  | some (a :: b :: _) => nI (2 ^ a ||| 2 ^ b)
theorem s_sparedEvents {s d : Nat → Nat} {n : Nat} {ek ea en : Nat → Nat} {c_this_told_picture : Nat → Int32} {c_this_told_head : Nat → Int32} {c_this_told_hitCount : Nat → Int32} {c_this_told_hitPlace : Nat → Int32} {f_this_events_size : Int32} {c_this_events_kinds : Nat → Int32} {c_this_events_passes : Nat → Int32} {c_this_events_nozzles : Nat → Int32} {c_this_living : Nat → Int32} {post : Int32 → ((Nat → Int32)) → Prop} (hh : Hd s c_this_told_head) (hp : PicOk d c_this_told_picture) (hH : ClsH s c_this_told_hitCount c_this_told_hitPlace) (hE : EvOk n ek ea en c_this_events_kinds c_this_events_passes c_this_events_nozzles) (hs' : f_this_events_size = nI n) (h : ∀ l, post (spBits (spR s d n ek ea en)) l) : wp_X3_sparedEvents c_this_told_picture c_this_told_head c_this_told_hitCount c_this_told_hitPlace f_this_events_size c_this_events_kinds c_this_events_passes c_this_events_nozzles c_this_living post := by
  have hn := hE.1
  have pw := pw8 hn
  unfold wp_X3_sparedEvents
  rw [hs']
  refine s_all hn (s_isSafe hh hp hH hE rfl (ne := 0) (by omega) (fun e he => by rw [Nat.testBit_two_pow_sub_one, decide_eq_true he, Nat.zero_testBit]; rfl) (fun l => ?_))
  unfold spR at h
  rw [b01_0]
  cases hs0 : safe s d n ek ea en 0 with
  | true =>
    rw [hs0] at h
    exact no1 (by decide) (h _)
  | false =>
    rw [hs0] at h
    rw [if_neg (by decide)] at h
    refine yes1 rfl ?_
    -- pairs
    have inn : ∀ (a : Nat), a < n → ∀ (Ke : (Nat → Int32) → Prop) (m r k : Nat) (l : Nat → Int32), k + r = n → r < m → (match fnd (sp2 s d n ek ea en a) r k with | some b => ∀ l, post (nI (2 ^ a ||| 2 ^ b)) l | none => ∀ l, Ke l) → wq_X3_sparedEvents_72 c_this_told_picture c_this_told_head c_this_told_hitCount c_this_told_hitPlace (nI n) c_this_events_kinds c_this_events_passes c_this_events_nozzles (nI (2 ^ n - 1)) (nI a) post Ke m (nI k) l := by
      intro a ha Ke m
      induction m with
      | zero => intro r k l g1 g2; omega
      | succ m ih =>
        intro r k l g1 g2 hR
        unfold wq_X3_sparedEvents_72
        rw [nI_leI (by omega) (by omega)]
        cases r with
        | zero => exact yes1 (by omega) (hR l)
        | succ r =>
          refine no1 (by omega) ?_
          unfold fnd at hR
          simp only [forall_eq]
          rw [q_1sh (by omega), q_1sh (by omega), fa_or, q_but]
          refine s_isSafe hh hp hH hE rfl (ne := 2 ^ a ||| 2 ^ k) (by have := cbn_lt (ne := 2 ^ a ||| 2 ^ k) hn; omega) (fun e he => cbn_bit he) (fun l => ?_)
          rw [b01_0]
          cases hc : safe s d n ek ea en (2 ^ a ||| 2 ^ k) with
          | true =>
            rw [show sp2 s d n ek ea en a k = true from hc, if_pos rfl] at hR
            exact no1 (by decide) (hR l)
          | false =>
            rw [show sp2 s d n ek ea en a k = false from hc, if_neg (by decide)] at hR
            rw [nI_1]
            exact yes1 rfl (ih r (k + 1) l (by omega) (by omega) hR)
    have out : ∀ (Ke : (Nat → Int32) → Prop) (m r k : Nat) (l : Nat → Int32), k + r = n → r < m → (match fnd2 (sp2 s d n ek ea en) r k with | some q => ∀ l, post (nI (2 ^ q.1 ||| 2 ^ q.2)) l | none => ∀ l, Ke l) → wq_X3_sparedEvents_57 c_this_told_picture c_this_told_head c_this_told_hitCount c_this_told_hitPlace (nI n) c_this_events_kinds c_this_events_passes c_this_events_nozzles (nI (2 ^ n - 1)) post Ke m (nI k) l := by
      intro Ke m
      induction m with
      | zero => intro r k l g1 g2; omega
      | succ m ih =>
        intro r k l g1 g2 hR
        unfold wq_X3_sparedEvents_57
        rw [nI_leI (by omega) (by omega)]
        cases r with
        | zero => exact yes1 (by omega) (hR l)
        | succ r =>
          refine no1 (by omega) ?_
          unfold fnd2 at hR
          rw [forall_eq, nI_1]
          refine ⟨r + 1, inn k (by omega) _ (r + 1) r (k + 1) l (by omega) (by omega) ?_⟩
          cases hf : fnd (sp2 s d n ek ea en k) r (k + 1) with
          | some b => rw [hf] at hR; exact hR
          | none =>
            rw [hf] at hR
            intro l
            rw [forall_eq]
            exact ih r (k + 1) l (by omega) (by omega) hR
    have one : ∀ (Ke : (Nat → Int32) → Prop) (m r k : Nat) (l : Nat → Int32), k + r = n → r < m → (match fnd (sp1 s d n ek ea en) r k with | some a => ∀ l, post (nI (2 ^ a)) l | none => ∀ l, Ke l) → wq_X3_sparedEvents_20 c_this_told_picture c_this_told_head c_this_told_hitCount c_this_told_hitPlace (nI n) c_this_events_kinds c_this_events_passes c_this_events_nozzles (nI (2 ^ n - 1)) post Ke m (nI k) l := by
      intro Ke m
      induction m with
      | zero => intro r k l g1 g2; omega
      | succ m ih =>
        intro r k l g1 g2 hR
        unfold wq_X3_sparedEvents_20
        rw [nI_leI (by omega) (by omega)]
        cases r with
        | zero => exact yes1 (by omega) (hR l)
        | succ r =>
          refine no1 (by omega) ?_
          unfold fnd at hR
          simp only [forall_eq]
          rw [q_1sh (by omega), q_but]
          refine s_isSafe hh hp hH hE rfl (ne := 2 ^ k) (by have := cbn_lt (ne := 2 ^ k) hn; omega) (fun e he => cbn_bit he) (fun l => ?_)
          rw [b01_0]
          cases hc : safe s d n ek ea en (2 ^ k) with
          | true =>
            rw [show sp1 s d n ek ea en k = true from hc, if_pos rfl] at hR
            exact no1 (by decide) (hR l)
          | false =>
            rw [show sp1 s d n ek ea en k = false from hc, if_neg (by decide)] at hR
            rw [nI_1]
            exact yes1 rfl (ih r (k + 1) l (by omega) (by omega) hR)
    refine ⟨n + 1, one _ (n + 1) n 0 l (by omega) (by omega) ?_⟩
    cases hf : fnd (sp1 s d n ek ea en) n 0 with
    | some a => rw [hf] at h; exact h
    | none =>
      rw [hf] at h
      intro l
      refine ⟨n + 1, out _ (n + 1) n 0 l (by omega) (by omega) ?_⟩
      cases hg : fnd2 (sp2 s d n ek ea en) n 0 with
      | some q => rw [hg] at h; exact h
      | none => rw [hg] at h; exact h
def nof (bits i : Nat) : Nat → Nat → Nat → Option Nat
  | 0, _, _ => none
  | r + 1, k, c => if bits.testBit k = true then (if c = i then some k else nof bits i r (k + 1) (c + 1)) else nof bits i r (k + 1) c
theorem s_numberOfBit {bits i : Nat} {post : Int32 → Unit → Prop} (hb : bits < 256) (hi : i < 2) (h : post (oI (nof bits i 8 0 0)) ()) : wp_X3_numberOfBit (nI bits) (nI i) post := by
  unfold wp_X3_numberOfBit
  have key : ∀ (m r k c : Nat), k + r = 8 → r < m → c ≤ k → post (oI (nof bits i r k c)) () → wq_X3_numberOfBit_4 (nI bits) (nI i) post (post (-1) ()) m (nI c) (nI k) := by
    intro m
    induction m with
    | zero => intro r k c g1 g2; omega
    | succ m ih =>
      intro r k c g1 g2 g3 hR
      unfold wq_X3_numberOfBit_4
      rw [show (8 : Int32) = nI 8 from rfl, nI_leI (by omega) (by omega)]
      cases r with
      | zero => exact yes1 (by omega) hR
      | succ r =>
        refine no1 (by omega) ?_
        unfold nof at hR
        simp only [forall_eq]
        rw [show (31 : Int32) = nI 31 from rfl, q_shr (by omega) (by omega), show (1 : Int32) = nI 1 from rfl, q_and1, q_bit, nI_eq (by omega) (by omega), nI_add, nI_add]
        by_cases cb : bits.testBit k = true
        · rw [if_pos cb] at hR
          refine yes2 cb ?_
          by_cases ci : c = i
          · rw [if_pos ci] at hR; exact yes2 ci hR
          · rw [if_neg ci] at hR; exact no2 ci (ih r (k + 1) (c + 1) (by omega) (by omega) (by omega) hR)
        · rw [if_neg cb] at hR
          exact no2 cb (ih r (k + 1) c (by omega) (by omega) (by omega) hR)
  exact ⟨9, key 9 8 0 0 (by omega) (by omega) (by omega) h⟩
theorem q_nof1 : ∀ a, a < 8 → nof (2 ^ a) 0 8 0 0 = some a ∧ nof (2 ^ a) 1 8 0 0 = none ∧ pcn (2 ^ a) = 1 ∧ 2 ^ a < 256 := by decide +kernel
theorem q_nof2 : ∀ b, b < 8 → ∀ a, a < b → nof (2 ^ a ||| 2 ^ b) 0 8 0 0 = some a ∧ nof (2 ^ a ||| 2 ^ b) 1 8 0 0 = some b ∧ pcn (2 ^ a ||| 2 ^ b) = 2 ∧ 2 ^ a ||| 2 ^ b < 256 := by decide +kernel
def spNum : Option (List Nat) → Int32
  | none => -1
  | some l => nI l.length
def spAt : Option (List Nat) → Nat → Int32
  | none, _ => -1
  | some l, i => match l[i]? with
    | some v => nI v
    | none => -1
def aSpare (R : Option (List Nat)) (x1 : Int32) : Int32 := if (-1 : Int32) ≤ x1 ∧ x1 ≤ 1 then (if x1 = -1 then spNum R else spAt R x1.toNatClampNeg) else -2
theorem q_m11 {x : Int32} (h : (-1 : Int32) ≤ x ∧ x ≤ 1) (h2 : ¬ x = -1) : ∃ i, i < 2 ∧ x = nI i := by
  have h0 : (0 : Int32) ≤ x := by
    rw [Int32.le_iff_toInt_le] at h ⊢
    have e1 : (-1 : Int32).toInt = -1 := by decide
    have e2 : (0 : Int32).toInt = 0 := by decide
    have : x.toInt ≠ -1 := fun q => h2 (Int32.toInt_inj.mp (by rw [q, e1]))
    omega
  obtain ⟨j, hj, e⟩ := (q_rng (n := 1) (by decide)).mp ⟨h0, h.2⟩
  exact ⟨j, by omega, e⟩
theorem spR_form (s d : Nat → Nat) (n : Nat) (ek ea en : Nat → Nat) : spR s d n ek ea en = none ∨ spR s d n ek ea en = some [] ∨ (∃ a, a < n ∧ spR s d n ek ea en = some [a]) ∨ (∃ a b, a < b ∧ b < n ∧ spR s d n ek ea en = some [a, b]) := by
  unfold spR
  by_cases c : safe s d n ek ea en 0 = true
  · rw [if_pos c]; exact Or.inr (Or.inl rfl)
  · rw [if_neg c]
    cases hf : fnd (sp1 s d n ek ea en) n 0 with
    | some a => exact Or.inr (Or.inr (Or.inl ⟨a, by have := fnd_lt hf; omega, rfl⟩))
    | none =>
      cases hg : fnd2 (sp2 s d n ek ea en) n 0 with
      | some q => have := fnd2_lt hg; exact Or.inr (Or.inr (Or.inr ⟨q.1, q.2, this.1, by omega, rfl⟩))
      | none => exact Or.inl rfl
theorem s_spare {s d : Nat → Nat} {n : Nat} {ek ea en : Nat → Nat} {x1 : Int32} {c_this_told_picture : Nat → Int32} {c_this_told_head : Nat → Int32} {c_this_told_hitCount : Nat → Int32} {c_this_told_hitPlace : Nat → Int32} {f_this_events_size : Int32} {c_this_events_kinds : Nat → Int32} {c_this_events_passes : Nat → Int32} {c_this_events_nozzles : Nat → Int32} {c_this_living : Nat → Int32} {post : Int32 → ((Nat → Int32)) → Prop} (hh : Hd s c_this_told_head) (hp : PicOk d c_this_told_picture) (hH : ClsH s c_this_told_hitCount c_this_told_hitPlace) (hE : EvOk n ek ea en c_this_events_kinds c_this_events_passes c_this_events_nozzles) (hs' : f_this_events_size = nI n) (h : ∀ l, post (aSpare (spR s d n ek ea en) x1) l) : wp_X3_spare x1 c_this_told_picture c_this_told_head c_this_told_hitCount c_this_told_hitPlace f_this_events_size c_this_events_kinds c_this_events_passes c_this_events_nozzles c_this_living post := by
  have hn := hE.1
  unfold wp_X3_spare
  unfold aSpare at h
  by_cases c : (-1 : Int32) ≤ x1 ∧ x1 ≤ 1
  · refine s_withinT c (no2 one0 (s_sparedEvents hh hp hH hE hs' (fun l => ?_)))
    rw [if_pos c] at h
    have fin : ∀ bits, bits < 256 → spBits (spR s d n ek ea en) = nI bits → (x1 = -1 → ∀ l, post (nI (pcn bits)) l) → (∀ i, i < 2 → x1 = nI i → ∀ l, post (oI (nof bits i 8 0 0)) l) → ((¬ (spBits (spR s d n ek ea en)) = (-1 : Int32) → ((¬ x1 = (-1 : Int32) → wp_X3_numberOfBit (spBits (spR s d n ek ea en)) x1 (fun (r9 : Int32) (u8 : Unit) => post r9 l)) ∧ (x1 = (-1 : Int32) → wp_J6_bitCount_0f7a4 (spBits (spR s d n ek ea en)) (fun (r11 : Int32) (u10 : Unit) => post r11 l)))) ∧ (spBits (spR s d n ek ea en) = (-1 : Int32) → post (-1 : Int32) l)) := by
      intro bits hb e h1 h2
      rw [e]
      refine no2 (q_m1 bits (by omega)) ?_
      by_cases c1 : x1 = -1
      · exact yes2 c1 (s_bitCount (by omega) (h1 c1 l))
      · obtain ⟨i, hi, ei⟩ := q_m11 c c1
        refine no2 c1 ?_
        rw [ei]
        exact s_numberOfBit hb hi (h2 i hi ei l)
    rcases spR_form s d n ek ea en with e | e | ⟨a, ha, e⟩ | ⟨a, b, hab, hb, e⟩
    · rw [e] at h ⊢
      refine yes2 rfl ?_
      by_cases c1 : x1 = -1
      · rw [if_pos c1] at h; exact h l
      · rw [if_neg c1] at h; exact h l
    · refine fin 0 (by decide) (by rw [e]; rfl) (fun c1 l => ?_) (fun i hi ei l => ?_)
      · rw [if_pos c1, e] at h; exact h l
      · have : ¬ x1 = -1 := by rw [ei]; exact q_m1 i (by omega)
        rw [if_neg this, e, ei, nI_clamp (by omega)] at h
        have hz : nof 0 i 8 0 0 = none := by
          have : i = 0 ∨ i = 1 := by omega
          rcases this with q | q <;> subst q <;> decide
        rw [hz]; exact h l
    · obtain ⟨q1, q2, q3, q4⟩ := q_nof1 a (by omega)
      refine fin (2 ^ a) q4 (by rw [e]; rfl) (fun c1 l => ?_) (fun i hi ei l => ?_)
      · rw [if_pos c1, e] at h; rw [q3]; exact h l
      · have : ¬ x1 = -1 := by rw [ei]; exact q_m1 i (by omega)
        rw [if_neg this, e, ei, nI_clamp (by omega)] at h
        have : i = 0 ∨ i = 1 := by omega
        rcases this with q | q
        · subst q; rw [q1]; exact h l
        · subst q; rw [q2]; exact h l
    · obtain ⟨q1, q2, q3, q4⟩ := q_nof2 b (by omega) a hab
      refine fin (2 ^ a ||| 2 ^ b) q4 (by rw [e]; rfl) (fun c1 l => ?_) (fun i hi ei l => ?_)
      · rw [if_pos c1, e] at h; rw [q3]; exact h l
      · have : ¬ x1 = -1 := by rw [ei]; exact q_m1 i (by omega)
        rw [if_neg this, e, ei, nI_clamp (by omega)] at h
        have : i = 0 ∨ i = 1 := by omega
        rcases this with q | q
        · subst q; rw [q1]; exact h l
        · subst q; rw [q2]; exact h l
  · rw [if_neg c] at h
    exact s_withinF c (yes2 rfl (h _))
