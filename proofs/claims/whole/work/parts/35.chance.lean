/-! chances -/
theorem sm_front (f : Nat → Nat) : ∀ n, fb_sm f (n + 1) = f 0 + fb_sm (fun k => f (k + 1)) n := by
  intro n
  have := fb_sm_split f 1 n
  rw [Nat.add_comm 1 n] at this
  rw [this]
  show fb_sm f 0 + f 0 + _ = _
  rw [show fb_sm f 0 = 0 from rfl, Nat.zero_add]
  congr 1
  exact fb_sm_cong (fun k _ => by rw [Nat.add_comm])
theorem sm_rev (f : Nat → Nat) : ∀ n, fb_sm f n = fb_sm (fun k => f (n - (k + 1))) n := by
  intro n
  induction n with
  | zero => rfl
  | succ n ih =>
    rw [sm_front (fun k => f (n + 1 - (k + 1))) n, fb_sm_succ, ih, Nat.add_comm]
    congr 1
    exact fb_sm_cong (fun k _ => by rw [show n + 1 - (k + 1 + 1) = n - (k + 1) by omega])
theorem sm_group (P : Nat → Bool) (g w : Nat → Nat) (M : Nat) : ∀ N, (∀ k, k < N → g k < M) → fb_sm (fun m => fb_ct (fun k => P k && decide (g k = m)) N * w m) M = fb_sm (fun k => if P k = true then w (g k) else 0) N := by
  intro N
  induction N with
  | zero => intro _; exact sm_0 (fun k _ => Nat.zero_mul _)
  | succ N ih =>
    intro h
    rw [fb_sm_succ, ← ih (fun k hk => h k (by omega))]
    have e : fb_sm (fun m => fb_ct (fun k => P k && decide (g k = m)) (N + 1) * w m) M = fb_sm (fun m => fb_ct (fun k => P k && decide (g k = m)) N * w m + (if m = g N then (if P N = true then w (g N) else 0) else 0)) M := by
      refine fb_sm_cong (fun m _ => ?_)
      rw [fb_ct_succ, Nat.add_mul]
      congr 1
      by_cases c : m = g N
      · subst c
        rw [if_pos rfl]
        cases P N <;> simp
      · rw [if_neg c, decide_eq_false (fun q => c q.symm), Bool.and_false]; simp
    rw [e, fb_sm_add]
    congr 1
    have u := fb_sm_upd (fun _ => 0) (if P N = true then w (g N) else 0) (i := g N) (n := M) (h N (by omega))
    rw [fb_sm_const, Nat.mul_zero, Nat.zero_add, Nat.add_zero] at u
    exact u
def wg (c set : Nat) : Nat → Nat
  | 0 => 1
  | k + 1 => wg c set k * (if set.testBit k = true then 16 - c else c)
theorem wg_pow (c set : Nat) : ∀ k, wg c set k = c ^ (fb_ct (fun e => !set.testBit e) k) * (16 - c) ^ (fb_ct (fun e => set.testBit e) k) := by
  intro k
  induction k with
  | zero => rfl
  | succ k ih =>
    unfold wg
    rw [ih, fb_ct_succ, fb_ct_succ]
    cases h : set.testBit k with
    | true =>
      simp only [Bool.not_true, if_true, Bool.false_eq_true, if_false, Nat.add_zero, Nat.pow_succ, Nat.mul_assoc]
    | false =>
      simp only [Bool.not_false, if_true, Bool.false_eq_true, if_false, Nat.add_zero, Nat.pow_succ]
      rw [Nat.mul_right_comm]
theorem wg_le {c : Nat} (hc : c ≤ 16) (set : Nat) : ∀ k, wg c set k ≤ 16 ^ k := by
  intro k
  induction k with
  | zero => exact Nat.le_refl _
  | succ k ih =>
    unfold wg
    rw [Nat.pow_succ]
    refine Nat.mul_le_mul ih ?_
    by_cases h : set.testBit k = true
    · rw [if_pos h]; omega
    · rw [if_neg h]; exact hc
def abv (s d : Nat → Nat) (n : Nat) (ek ea en : Nat → Nat) (c : Nat) : Nat := fb_sm (fun set => if safe s d n ek ea en set = true then wg c set n else 0) (2 ^ n)
def cfs (s d : Nat → Nat) (n : Nat) (ek ea en : Nat → Nat) (ch : Nat) : Bool := safe s d n ek ea en (2 ^ n - (ch + 1))
def cnS (s d : Nat → Nat) (n : Nat) (ek ea en : Nat → Nat) (m : Nat) : Nat → Nat := fb_ct (fun ch => cfs s d n ek ea en ch && decide (pcn ch = m))
theorem pcn_n {ch n : Nat} (hn : n ≤ 8) (h : ch < 2 ^ n) : pcn ch = fb_ct (fun e => ch.testBit e) n := by
  have key : ∀ m, n ≤ m → fb_ct (fun e => ch.testBit e) m = fb_ct (fun e => ch.testBit e) n := by
    intro m
    induction m with
    | zero => intro q; rw [show n = 0 by omega]
    | succ m ih =>
      intro q
      by_cases e : n = m + 1
      · rw [e]
      · rw [fb_ct_succ, ih (by omega), Nat.testBit_lt_two_pow (Nat.lt_of_lt_of_le h (Nat.pow_le_pow_right (by decide) (by omega)))]; rfl
  exact key 12 (by omega)
theorem abv_eq {s d : Nat → Nat} {n : Nat} {ek ea en : Nat → Nat} (hn : n ≤ 8) (c : Nat) : fb_sm (fun m => cnS s d n ek ea en m (2 ^ n) * (c ^ m * (16 - c) ^ (n - m))) (n + 1) = abv s d n ek ea en c := by
  unfold cnS abv
  have hb : ∀ ch, ch < 2 ^ n → pcn ch < n + 1 := fun ch h => by rw [pcn_n hn h]; have := fb_ct_le (fun e => ch.testBit e) n; omega
  rw [sm_group (cfs s d n ek ea en) pcn (fun m => c ^ m * (16 - c) ^ (n - m)) (n + 1) (2 ^ n) hb, sm_rev (fun set => if safe s d n ek ea en set = true then wg c set n else 0)]
  refine fb_sm_cong (fun ch hch => ?_)
  show (if cfs s d n ek ea en ch = true then _ else 0) = (if safe s d n ek ea en (2 ^ n - (ch + 1)) = true then wg c (2 ^ n - (ch + 1)) n else 0)
  have e : wg c (2 ^ n - (ch + 1)) n = c ^ pcn ch * (16 - c) ^ (n - pcn ch) := by
    rw [wg_pow, pcn_n hn hch]
    have e1 : fb_ct (fun e => !(2 ^ n - (ch + 1)).testBit e) n = fb_ct (fun e => ch.testBit e) n := fb_ct_cong (fun k hk => by
      rw [Nat.testBit_two_pow_sub_succ hch, decide_eq_true hk]; cases ch.testBit k <;> rfl)
    have e2 : fb_ct (fun e => (2 ^ n - (ch + 1)).testBit e) n = n - fb_ct (fun e => ch.testBit e) n := by
      have := fb_ct_not (fun e => (2 ^ n - (ch + 1)).testBit e) n
      rw [e1] at this
      omega
    rw [e1, e2]
  rw [e]; rfl
theorem abv_lt {s d : Nat → Nat} {n : Nat} {ek ea en : Nat → Nat} (hn : n ≤ 8) {c : Nat} (hc : c ≤ 16) : abv s d n ek ea en c ≤ 256 * 16 ^ 8 := by
  have h1 : abv s d n ek ea en c ≤ 2 ^ n * 16 ^ 8 := fb_sm_bound (fun k _ => by
    have : wg c k n ≤ 16 ^ 8 := Nat.le_trans (wg_le hc k n) (Nat.pow_le_pow_right (by decide) hn)
    by_cases q : safe s d n ek ea en k = true
    · rw [if_pos q]; exact this
    · rw [if_neg q]; exact Nat.zero_le _)
  exact Nat.le_trans h1 (Nat.mul_le_mul_right _ (pw8 hn).2)
/-- the lowest terms -/
theorem gcd_odd {a j : Nat} (h : a % 2 = 1) : Nat.gcd a (2 ^ j) = 1 := by
  have h1 : Nat.gcd a 2 = 1 := by
    rw [Nat.gcd_comm, Nat.gcd_rec, h]
    decide
  exact Nat.Coprime.pow_right j h1
theorem low_eq {A j i : Nat} (hi : i ≤ j) (hd : 2 ^ i ∣ A) (h : i = j ∨ A / 2 ^ i % 2 = 1) : Nat.gcd A (2 ^ j) = 2 ^ i := by
  obtain ⟨a, rfl⟩ := hd
  have e : 2 ^ j = 2 ^ i * 2 ^ (j - i) := by rw [← Nat.pow_add]; congr 1; omega
  rw [e, Nat.gcd_mul_left]
  have p : 0 < 2 ^ i := Nat.pow_pos (by decide)
  rw [Nat.mul_div_cancel_left _ p] at h
  rcases h with h | h
  · rw [h, Nat.sub_self, Nat.pow_zero, Nat.gcd_one_right, Nat.mul_one]
  · rw [gcd_odd h, Nat.mul_one]
theorem q_l0 {a : Nat} (h : a < 2 ^ 63) : (lg_cmp (lN a) 0 = 0) ↔ a = 0 := by
  unfold lg_cmp
  have e : (lN a = 0) ↔ a = 0 := by
    rw [show (0 : Int64) = lN 0 from rfl]; exact fb_lN_inj h (by decide)
  by_cases c : a = 0
  · subst c; exact ⟨fun _ => rfl, fun _ => rfl⟩
  · refine ⟨fun q => ?_, fun q => absurd q c⟩
    by_cases g : lN a > 0
    · rw [if_pos g] at q; exact absurd q (by decide)
    · rw [if_neg g, if_neg (fun z => c (e.mp z))] at q; exact absurd q (by decide)
theorem q_lpos {a : Nat} (h : a < 2 ^ 63) : (lg_cmp (lN a) 0 ≤ 0) ↔ a = 0 := by
  unfold lg_cmp
  have hg : (lN a > 0) ↔ 0 < a := by
    show (0 : Int64) < lN a ↔ _
    rw [Int64.lt_iff_toInt_lt, pk_lT h]
    have : (0 : Int64).toInt = 0 := by decide
    omega
  by_cases c : a = 0
  · subst c; exact ⟨fun _ => rfl, fun _ => by decide⟩
  · refine ⟨fun q => ?_, fun q => absurd q c⟩
    rw [if_pos (hg.mpr (by omega))] at q
    exact absurd q (by decide)
theorem q_lshr {a : Nat} (h : a < 2 ^ 62) : lN a >>> ((1 : Int32).toInt64 &&& 63) = lN (a / 2) := by
  have hd : a / 2 ≤ a := Nat.div_le_self _ _
  apply Int64.toInt_inj.mp
  have hD : (((1 : Int32).toInt64 &&& 63).toBitVec.smod 64).toNat = 1 := by decide
  have e : (lN a >>> ((1 : Int32).toInt64 &&& 63)).toInt = (lN a).toInt >>> 1 := by
    rw [← hD]
    exact BitVec.toInt_sshiftRight ..
  rw [e, Int.shiftRight_eq_div_pow, pk_lT (by omega), pk_lT (by omega)]
  rfl
theorem q_lbelow : ∀ n, n < 9 → (1 : Int64) <<< (((4 : Int32) * nI n).toInt64 &&& 63) = lN (2 ^ (4 * n)) := by decide +kernel
theorem r_lowest {A B w : Nat} {post : Int64 → Unit → Prop} (hA : A < 2 ^ 62) (hB : B < 2 ^ 62) (hB0 : 0 < B) (hw : w ≤ 1) (h : post (if w = 0 then lN (A / Nat.gcd A B) else lN (B / Nat.gcd A B)) ()) : wp_X4_lowest (lN A) (lN B) (nI w) post := by
  unfold wp_X4_lowest
  have key : ∀ (Ke : Int64 → Prop), ∀ (y : Nat) (x : Nat), x < 2 ^ 62 → y < 2 ^ 62 → Ke (lN (Nat.gcd x y)) → ∃ m, wq_X4_lowest_6 (lN A) (lN B) (nI w) post Ke m (lN x) (lN y) := by
    intro Ke y
    induction y using Nat.strongRecOn with
    | _ y ih =>
      intro x hx hy hK
      by_cases c : y = 0
      · subst c
        rw [Nat.gcd_zero_right] at hK
        exact ⟨1, yes1 ((q_l0 (by decide)).mpr rfl) hK⟩
      · have hm : x % y < y := Nat.mod_lt _ (by omega)
        obtain ⟨m, hm'⟩ := ih (x % y) hm y (by omega) (by omega) (by
          rw [Nat.gcd_comm, Nat.gcd_rec] at hK
          rw [Nat.gcd_comm]; exact hK)
        refine ⟨m + 1, ?_⟩
        unfold wq_X4_lowest_6
        refine no1 (fun q => c ((q_l0 (by omega)).mp q)) ⟨fun q => c ((fb_lN_inj (b := 0) (by omega) (by decide)).mp q), ?_⟩
        rw [forall_eq, pk_lDiv (by omega) (by omega) (by omega), lN_mul, lN_sub (Nat.div_mul_le_self x y)]
        have e : x - x / y * y = x % y := by
          have := Nat.div_add_mod x y
          rw [Nat.mul_comm] at this
          omega
        rw [e]
        exact hm'
  refine key _ B A hA hB ?_
  have hg : 0 < Nat.gcd A B := Nat.gcd_pos_of_pos_right _ hB0
  have hgb : Nat.gcd A B ≤ B := Nat.gcd_le_right _ hB0
  have hne : ¬ lN (Nat.gcd A B) = 0 := fun q => by
    have := (fb_lN_inj (b := 0) (by omega) (by decide)).mp q
    omega
  rw [forall_eq, pk_lDiv (by omega) hg (by omega), pk_lDiv (by omega) hg (by omega)]
  by_cases c : w = 0
  · rw [if_pos c] at h
    exact yes2 (by rw [c]; rfl) ⟨hne, h⟩
  · rw [if_neg c] at h
    exact no2 (fun q => c ((nI_eq (b := 0) (by omega) (by omega)).mp q)) ⟨hne, h⟩
def aCh (s d : Nat → Nat) (n : Nat) (ek ea en : Nat → Nat) (c w : Nat) : Int64 := if w = 0 then lN (abv s d n ek ea en c / Nat.gcd (abv s d n ek ea en c) (2 ^ (4 * n))) else lN (2 ^ (4 * n) / Nat.gcd (abv s d n ek ea en c) (2 ^ (4 * n)))
def aChance (s d : Nat → Nat) (n : Nat) (ek ea en : Nat → Nat) (x1 x2 : Int32) : Int64 := if ((0 : Int32) ≤ x1 ∧ x1 ≤ 16) ∧ ((0 : Int32) ≤ x2 ∧ x2 ≤ 1) then aCh s d n ek ea en x1.toNatClampNeg x2.toNatClampNeg else -9223372036854775806
theorem s_power {b e : Nat} {post : Int64 → Unit → Prop} (he : e < 2 ^ 30) (h : post (lN (b ^ e)) ()) : wp_X3_power (lN b) (nI e) post := by
  unfold wp_X3_power
  have key : ∀ (m k : Nat), k ≤ e → e - k < m → wq_X3_power_5 (lN b) (nI e) post (fun e6 => post e6 ()) m (lN (b ^ k)) (nI k) := by
    intro m
    induction m with
    | zero => intro k g1 g2; omega
    | succ m ih =>
      intro k g1 g2
      unfold wq_X3_power_5
      rw [nI_leI (by omega) (by omega)]
      refine ⟨fun q => ?_, fun q => ?_⟩
      · have e : k = e := by omega
        subst e; exact h
      · rw [forall_eq, forall_eq, lN_mul, nI_1, ← Nat.pow_succ]
        exact ih (k + 1) (by omega) (by omega)
  exact ⟨e + 1, key (e + 1) 0 (by omega) (by omega)⟩
theorem s_fillL {N : Nat} {x : Int64} {c : Nat → Int64} {post : (Nat → Int64) → Prop} (hn : N < 2 ^ 31) (h : ∀ e : Nat → Int64, (∀ k, k < N → e k = x) → post e) : wp_J7_fill_d0a16 N x c post := by
  unfold wp_J7_fill_d0a16
  rw [forall_eq]
  have key : ∀ (m i : Nat) (e : Nat → Int64), i ≤ N → N - i < m → (∀ k, k < i → e k = x) → wq_J7_fill_d0a16_6 N x (nI N) post (fun e => post e) m (nI i) e := by
    intro m
    induction m with
    | zero => intro i e h1 h2; omega
    | succ m ih =>
      intro i e h1 h2 h3
      unfold wq_J7_fill_d0a16_6
      rw [nI_leI (by omega) (by omega)]
      refine ⟨fun c0 => h e (fun k hk => h3 k (by omega)), fun c0 => ⟨vp_in_nI (by omega) hn, ?_⟩⟩
      rw [forall_eq, nI_1, nI_clamp (by omega)]
      refine ih (i + 1) _ (by omega) (by omega) (fun k hk => ?_)
      unfold vp_updL
      by_cases e : k = i
      · rw [if_pos e]
      · rw [if_neg e]; exact h3 k (by omega)
  exact ⟨N + 1, key (N + 1) 0 c (by omega) (by omega) (fun k hk => by omega)⟩
theorem s_countSafe {s d : Nat → Nat} {n : Nat} {ek ea en : Nat → Nat} {c_this_told_picture : Nat → Int32} {c_this_told_head : Nat → Int32} {c_this_told_hitCount : Nat → Int32} {c_this_told_hitPlace : Nat → Int32} {f_this_events_size : Int32} {c_this_events_kinds : Nat → Int32} {c_this_events_passes : Nat → Int32} {c_this_events_nozzles : Nat → Int32} {c_this_living : Nat → Int32} {c_this_safeBySize : Nat → Int64} {post : ((Nat → Int32) × (Nat → Int64)) → Prop} (hh : Hd s c_this_told_head) (hp : PicOk d c_this_told_picture) (hH : ClsH s c_this_told_hitCount c_this_told_hitPlace) (hE : EvOk n ek ea en c_this_events_kinds c_this_events_passes c_this_events_nozzles) (hs' : f_this_events_size = nI n) (h : ∀ l t, (∀ m, m < 9 → t m = lN (cnS s d n ek ea en m (2 ^ n))) → post (l, t)) : wp_X3_countSafe c_this_told_picture c_this_told_head c_this_told_hitCount c_this_told_hitPlace f_this_events_size c_this_events_kinds c_this_events_passes c_this_events_nozzles c_this_living c_this_safeBySize post := by
  have hn := hE.1
  have pw := pw8 hn
  unfold wp_X3_countSafe
  refine s_fillL (by decide) (fun t0 ht0 => ?_)
  have key : ∀ (m k : Nat) (l : Nat → Int32) (t : Nat → Int64), k ≤ 2 ^ n → 2 ^ n - k < m → (∀ m, m < 9 → t m = lN (cnS s d n ek ea en m k)) → wq_X3_countSafe_10 c_this_told_picture c_this_told_head c_this_told_hitCount c_this_told_hitPlace f_this_events_size c_this_events_kinds c_this_events_passes c_this_events_nozzles post (fun d21 d22 => post (d21, d22)) m (nI k) l t := by
    intro m
    induction m with
    | zero => intro k l t g1 g2; omega
    | succ m ih =>
      intro k l t g1 g2 hI
      unfold wq_X3_countSafe_10
      have st := fun l t => ih (k + 1) l t
      rw [hs'] at st ⊢
      refine s_all hn ?_
      rw [nI_ltI (by omega) (by omega)]
      refine ⟨fun q => ?_, fun q => ?_⟩
      · have e : k = 2 ^ n := by omega
        subst e; exact h l t hI
      · have hk : k < 2 ^ n := by omega
        refine s_isSafe hh hp hH hE rfl (ne := 2 ^ n - (k + 1)) (by omega) (fun e he => by
          rw [Nat.testBit_two_pow_sub_succ hk, decide_eq_true he]; cases k.testBit e <;> rfl) (fun l => ?_)
        have cs : ∀ m, cnS s d n ek ea en m (k + 1) = cnS s d n ek ea en m k + (if (cfs s d n ek ea en k && decide (pcn k = m)) = true then 1 else 0) := fun m => rfl
        rw [b01_0]
        simp only [forall_eq]
        rw [nI_1]
        cases hc : safe s d n ek ea en (2 ^ n - (k + 1)) with
        | false =>
          refine yes1 rfl (st l t (by omega) (by omega) (fun m hm => ?_))
          rw [hI m hm, cs, show cfs s d n ek ea en k = false from hc]; rfl
        | true =>
          refine no1 (by decide) (s_bitCount (by omega) ?_)
          have hb : pcn k < 9 := by rw [pcn_n hn hk]; have := fb_ct_le (fun e => k.testBit e) n; omega
          refine ⟨vp_in_nI hb (by omega), vp_in_nI hb (by omega), ?_⟩
          rw [nI_clamp (by omega), hI _ hb, lN_1]
          refine st l _ (by omega) (by omega) (fun m hm => ?_)
          unfold vp_updL
          by_cases e : m = pcn k
          · rw [if_pos e, cs, show cfs s d n ek ea en k = true from hc, decide_eq_true e.symm, e]; rfl
          · rw [if_neg e, hI m hm, cs, decide_eq_false (fun q => e q.symm), Bool.and_false]; rfl
  exact ⟨2 ^ n + 1, key (2 ^ n + 1) 0 _ t0 (by omega) (by omega) (fun m hm => ht0 m hm)⟩
theorem s_chance {s d : Nat → Nat} {n : Nat} {ek ea en : Nat → Nat} {x1 : Int32} {x2 : Int32} {c_this_told_picture : Nat → Int32} {c_this_told_head : Nat → Int32} {c_this_told_hitCount : Nat → Int32} {c_this_told_hitPlace : Nat → Int32} {f_this_events_size : Int32} {c_this_events_kinds : Nat → Int32} {c_this_events_passes : Nat → Int32} {c_this_events_nozzles : Nat → Int32} {c_this_living : Nat → Int32} {c_this_safeBySize : Nat → Int64} {post : Int64 → ((Nat → Int32) × (Nat → Int64)) → Prop} (hh : Hd s c_this_told_head) (hp : PicOk d c_this_told_picture) (hH : ClsH s c_this_told_hitCount c_this_told_hitPlace) (hE : EvOk n ek ea en c_this_events_kinds c_this_events_passes c_this_events_nozzles) (hs' : f_this_events_size = nI n) (h : ∀ u, post (aChance s d n ek ea en x1 x2) u) : wp_X3_chance x1 x2 c_this_told_picture c_this_told_head c_this_told_hitCount c_this_told_hitPlace f_this_events_size c_this_events_kinds c_this_events_passes c_this_events_nozzles c_this_living c_this_safeBySize post := by
  have hn := hE.1
  have pw := pw8 hn
  unfold wp_X3_chance
  unfold aChance at h
  by_cases c1 : (0 : Int32) ≤ x1 ∧ x1 ≤ 16
  · refine s_withinT c1 (no1 one0 ?_)
    by_cases c2 : (0 : Int32) ≤ x2 ∧ x2 ≤ 1
    · refine s_withinT c2 (no2 one0 ?_)
      rw [if_pos ⟨c1, c2⟩] at h
      obtain ⟨c, hc, e⟩ := (q_rng (n := 16) (by decide)).mp c1
      subst e
      obtain ⟨w, hw, e⟩ := (q_rng (n := 1) (by decide)).mp c2
      subst e
      rw [nI_clamp (by omega), nI_clamp (by omega)] at h
      refine s_countSafe hh hp hH hE hs' (fun l t ht => ?_)
      dsimp only
      have hab := abv_lt (s := s) (d := d) (ek := ek) (ea := ea) (en := en) hn hc
      have sum : ∀ (Ke : Int64 → Prop), Ke (lN (abv s d n ek ea en c)) → ∀ (m k : Nat), k ≤ n + 1 → n + 1 - k < m → wq_X3_chance_32 c_this_told_picture c_this_told_head c_this_told_hitCount c_this_told_hitPlace f_this_events_size c_this_events_kinds c_this_events_passes c_this_events_nozzles (nI c) (nI w) l t post Ke m (lN (fb_sm (fun m => cnS s d n ek ea en m (2 ^ n) * (c ^ m * (16 - c) ^ (n - m))) k)) (nI k) := by
        intro Ke hK m
        induction m with
        | zero => intro k g1 g2; omega
        | succ m ih =>
          intro k g1 g2
          have st := ih (k + 1)
          unfold wq_X3_chance_32
          rw [hs'] at st ⊢
          rw [nI_ltI (by omega) (by omega)]
          refine ⟨fun q => ?_, fun q => ?_⟩
          · have e : k = n + 1 := by omega
            subst e; rw [abv_eq hn]; exact hK
          · refine ⟨vp_in_nI (by omega) (by omega), ?_⟩
            rw [forall_eq, forall_eq, nI_clamp (by omega), ht k (by omega), nI_l (by omega)]
            refine s_power (by omega) ?_
            rw [forall_eq, forall_eq, forall_eq, show (16 : Int32) = nI 16 from rfl, pk_sub (by omega), nI_l (by omega), pk_sub (by omega)]
            refine s_power (by omega) ?_
            rw [forall_eq, forall_eq, lN_mul, lN_mul, lN_add, nI_1]
            have st := st (by omega) (by omega)
            rw [fb_sm_succ, ← Nat.mul_assoc] at st
            exact st
      refine ⟨n + 2, sum _ ?_ (n + 2) 0 (by omega) (by omega)⟩
      rw [hs']
      refine s_power (b := 16) (by omega) ?_
      have e16 : 16 ^ n = 2 ^ (4 * n) := by rw [Nat.pow_mul]
      rw [e16]
      have p32 : 2 ^ (4 * n) ≤ 2 ^ 32 := Nat.pow_le_pow_right (by decide) (by omega)
      have half : ∀ (m k : Nat), k ≤ 4 * n → 4 * n - k < m → 2 ^ k ∣ abv s d n ek ea en c → wq_X3_chance_105 c_this_told_picture c_this_told_head c_this_told_hitCount c_this_told_hitPlace (nI n) c_this_events_kinds c_this_events_passes c_this_events_nozzles (nI w) l t post (fun e42 e43 => ((¬ nI w = 0 → post e43 (l, t)) ∧ (nI w = 0 → post e42 (l, t)))) m (lN (abv s d n ek ea en c / 2 ^ k)) (lN (2 ^ (4 * n - k))) (nI k) := by
        intro m
        induction m with
        | zero => intro k g1 g2; omega
        | succ m ih =>
          intro k g1 g2 hd
          have fin : (k = 4 * n ∨ abv s d n ek ea en c / 2 ^ k % 2 = 1) → ((¬ nI w = 0 → post (lN (2 ^ (4 * n - k))) (l, t)) ∧ (nI w = 0 → post (lN (abv s d n ek ea en c / 2 ^ k)) (l, t))) := by
            intro hq
            have hg := low_eq g1 hd hq
            unfold aCh at h
            rw [hg, Nat.pow_div g1 (by decide)] at h
            by_cases w0 : w = 0
            · simp only [if_pos w0] at h
              exact yes2 (by rw [w0]; rfl) (h _)
            · simp only [if_neg w0] at h
              exact no2 (fun q => w0 ((nI_eq (b := 0) (by omega) (by omega)).mp q)) (h _)
          unfold wq_X3_chance_105
          rw [show (4 : Int32) = nI 4 from rfl, pk_mul, nI_leI (by omega) (by omega)]
          refine ⟨fun q => fin (Or.inl (by omega)), fun q => ?_⟩
          have hdiv : abv s d n ek ea en c / 2 ^ k ≤ abv s d n ek ea en c := Nat.div_le_self _ _
          have p33 : 2 ^ (4 * n - k) ≤ 2 ^ 32 := Nat.pow_le_pow_right (by decide) (by omega)
          rw [forall_eq, show (1 : Int64) = lN (2 ^ 1 - 1) from rfl, fb_maskL, q_l0 (by omega)]
          simp only [forall_eq]
          rw [q_lshr (by omega), q_lshr (by omega), nI_1]
          refine ⟨fun q2 => fin (Or.inr (by have := Nat.mod_two_eq_zero_or_one (abv s d n ek ea en c / 2 ^ k); omega)), fun q2 => ?_⟩
          have e1 : abv s d n ek ea en c / 2 ^ k / 2 = abv s d n ek ea en c / 2 ^ (k + 1) := by rw [Nat.div_div_eq_div_mul, Nat.pow_succ]
          have e2 : 2 ^ (4 * n - k) / 2 = 2 ^ (4 * n - (k + 1)) := by
            rw [show 4 * n - k = (4 * n - (k + 1)) + 1 by omega, Nat.pow_succ, Nat.mul_div_cancel _ (by decide)]
          rw [e1, e2]
          refine ih (k + 1) (by omega) (by omega) ?_
          obtain ⟨a, ha⟩ := hd
          have p : 0 < 2 ^ k := Nat.pow_pos (by decide)
          rw [ha, Nat.mul_div_cancel_left _ p] at q2
          have q2 : a % 2 = 0 := q2
          refine ⟨a / 2, ?_⟩
          rw [ha, Nat.pow_succ, Nat.mul_assoc]
          congr 1
          omega
      have := half (4 * n + 1) 0 (by omega) (by omega) ⟨abv s d n ek ea en c, by rw [Nat.pow_zero, Nat.one_mul]⟩
      rw [Nat.pow_zero, Nat.div_one, Nat.sub_zero] at this
      exact ⟨_, this⟩
    · rw [if_neg (fun q => c2 q.2)] at h
      exact s_withinF c2 (yes2 rfl (h _))
  · rw [if_neg (fun q => c1 q.1)] at h
    exact s_withinF c1 (yes1 rfl (h _))

theorem r_chanceOf {d s : Nat → Nat} {n : Nat} {ek ea en : Nat → Nat} {c w : Nat} {f_this_events : Int32} {f_this_notEvents : Int32} {f_this_deadNow : Int32} {f_this_allMissed : Int32} {f_this_allWanted : Int32} {f_this_allPrinted : Int32} {c_this_told : Nat → Int32} {c_this_head : Nat → Int32} {c_this_eventKind : Nat → Int32} {c_this_eventAt : Nat → Int32} {c_this_eventNozzle : Nat → Int32} {c_this_dots : Nat → Int32} {c_this_now : Nat → Int32} {c_this_hitMany : Nat → Int32} {c_this_hitPass : Nat → Int32} {c_this_hitNozzle : Nat → Int32} {c_this_hitPrints : Nat → Int32} {c_this_canMany : Nat → Int32} {c_this_printedBy : Nat → Int32} {c_this_missing : Nat → Int32} {c_this_prints : Nat → Int32} {c_this_gutter : Nat → Int32} {post : Int64 → (Int32 × Int32 × Int32 × Int32 × Int32 × (Nat → Int32) × (Nat → Int32) × (Nat → Int32) × (Nat → Int32) × (Nat → Int32) × (Nat → Int32) × (Nat → Int32) × (Nat → Int32) × (Nat → Int32) × (Nat → Int32) × (Nat → Int32)) → Prop} (I : RefI d s n ek ea en c_this_told c_this_head f_this_events c_this_eventKind c_this_eventAt c_this_eventNozzle) (hc : c ≤ 16) (hw : w ≤ 1) (h : ∀ u, post (aCh s d n ek ea en c w) u) : wp_X4_chanceOf (nI c) (nI w) f_this_events f_this_notEvents f_this_deadNow f_this_allMissed f_this_allWanted f_this_allPrinted c_this_told c_this_head c_this_eventKind c_this_eventAt c_this_eventNozzle c_this_dots c_this_now c_this_hitMany c_this_hitPass c_this_hitNozzle c_this_hitPrints c_this_canMany c_this_printedBy c_this_missing c_this_prints c_this_gutter post := by
  obtain ⟨i1, i2, i3, i4⟩ := I
  subst i3
  have H := i2.1
  have hn := i4.1
  have pw := pw8 hn
  unfold wp_X4_chanceOf
  refine r_asTold i1 i2 (fun dots now hd hnow => ?_)
  dsimp only
  have hab := abv_lt (s := s) (d := d) (ek := ek) (ea := ea) (en := en) hn hc
  have p32 : 2 ^ (4 * n) ≤ 2 ^ 32 := Nat.pow_le_pow_right (by decide) (by omega)
  have wgt : ∀ (x3 : Int64) (set : Nat), set < 256 → ∀ (e1 e2 e3 e4 e5 : Int32) (f1 f2 f3 f4 f5 f6 f7 f8 f9 f10 f11 : Nat → Int32) (Ke : Int64 → Prop), Ke (lN (wg c set n)) → ∀ (m k : Nat), k ≤ n → n - k < m → wq_X4_chanceOf_26 (nI n) c_this_told c_this_head c_this_eventKind c_this_eventAt c_this_eventNozzle (nI c) (nI w) x3 (nI set) e1 e2 e3 e4 e5 f1 f2 f3 f4 f5 f6 f7 f8 f9 f10 f11 post Ke m (lN (wg c set k)) (nI k) := by
    intro x3 set hset e1 e2 e3 e4 e5 f1 f2 f3 f4 f5 f6 f7 f8 f9 f10 f11 Ke hK m
    induction m with
    | zero => intro k g1 g2; omega
    | succ m ih =>
      intro k g1 g2
      unfold wq_X4_chanceOf_26
      rw [nI_leI (by omega) (by omega)]
      refine ⟨fun q => ?_, fun q => ?_⟩
      · have e : k = n := by omega
        subst e; exact hK
      · have st := ih (k + 1) (by omega) (by omega)
        unfold wg at st
        refine r_isIn (by omega) (by omega) ?_
        rw [b01_0]
        simp only [forall_eq]
        rw [show (16 : Int32) = nI 16 from rfl, pk_sub (by omega), nI_l (by omega), nI_l (by omega), lN_mul, lN_mul, nI_1]
        cases hb : set.testBit k with
        | true =>
          rw [hb, if_pos rfl] at st
          exact no1 (by decide) st
        | false =>
          rw [hb, if_neg (by decide)] at st
          exact yes1 rfl st
  have key : ∀ (Ke : Int64 → Int32 → Int32 → Int32 → Int32 → (Nat → Int32) → (Nat → Int32) → (Nat → Int32) → (Nat → Int32) → (Nat → Int32) → (Nat → Int32) → (Nat → Int32) → (Nat → Int32) → (Nat → Int32) → Prop), (∀ e1 e2 e3 e4 f1 f2 f3 f4 f5 f6 f7 f8 f9, Ke (lN (abv s d n ek ea en c)) e1 e2 e3 e4 f1 f2 f3 f4 f5 f6 f7 f8 f9) → ∀ (m k : Nat) (e1 e2 e3 e4 : Int32) (f1 f2 f3 f4 f5 f6 f7 f8 f9 : Nat → Int32), k ≤ 2 ^ n → 2 ^ n - k < m → wq_X4_chanceOf_9 (nI n) c_this_told c_this_head c_this_eventKind c_this_eventAt c_this_eventNozzle (nI c) (nI w) (-1) dots now post Ke m (lN (fb_sm (fun set => if safe s d n ek ea en set = true then wg c set n else 0) k)) (nI k) e1 e2 e3 e4 f1 f2 f3 f4 f5 f6 f7 f8 f9 := by
    intro Ke hK m
    induction m with
    | zero => intro k e1 e2 e3 e4 f1 f2 f3 f4 f5 f6 f7 f8 f9 g1 g2; omega
    | succ m ih =>
      intro k e1 e2 e3 e4 f1 f2 f3 f4 f5 f6 f7 f8 f9 g1 g2
      unfold wq_X4_chanceOf_9
      rw [q_1sh (by omega), nI_leI (by omega) (by omega)]
      refine ⟨fun q => ?_, fun q => ?_⟩
      · have e : k = 2 ^ n := by omega
        subst e; exact hK _ _ _ _ _ _ _ _ _ _ _ _ _
      · have hwl : wg c k n ≤ 16 ^ 8 := Nat.le_trans (wg_le hc k n) (Nat.pow_le_pow_right (by decide) hn)
        refine ⟨n + 1, wgt _ k (by omega) _ _ _ _ _ _ _ _ _ _ _ _ _ _ _ _ _ ?_ (n + 1) 0 (by omega) (by omega)⟩
        rw [q_lpos (by omega)]
        have st := fun e1 e2 e3 e4 f1 f2 f3 f4 f5 f6 f7 f8 f9 => ih (k + 1) e1 e2 e3 e4 f1 f2 f3 f4 f5 f6 f7 f8 f9 (by omega) (by omega)
        simp only [fb_sm_succ] at st
        refine ⟨fun cz => ?_, fun cz => ?_⟩
        · rw [forall_eq, nI_1]
          have z : (if safe s d n ek ea en k = true then wg c k n else 0) = 0 := by rw [cz]; exact ite_self _
          rw [z] at st
          exact st _ _ _ _ _ _ _ _ _ _ _ _ _
        · refine r_runs hnow (r_alN i4 (by omega)) hd (fun aM aW aP hm hP hN hR cM pB mi pt gt hRun => ?_)
          dsimp only
          have e1 : aM = nI (sMiss s (alN n ek ea en k) d) := by rw [hRun.2.1.1, sm16_stk]; rfl
          have t := tot_sum H (alN n ek ea en k) (fun y hy => (hd y hy).2)
          have t2 := tot_le d
          rw [e1, show (0 : Int32) = nI 0 from rfl, nI_eq (by omega) (by omega), show (0 : Int64) = lN 0 from rfl]
          simp only [forall_eq]
          rw [lN_add, lN_add, nI_1]
          refine ⟨fun c0 => ?_, fun c0 => ?_⟩
          · rw [show safe s d n ek ea en k = false from decide_eq_false c0, if_neg (by decide)] at st
            exact st _ _ _ _ _ _ _ _ _ _ _ _ _
          · rw [show safe s d n ek ea en k = true from decide_eq_true c0, if_pos rfl] at st
            exact st _ _ _ _ _ _ _ _ _ _ _ _ _
  refine ⟨2 ^ n + 1, key _ (fun e1 e2 e3 e4 f1 f2 f3 f4 f5 f6 f7 f8 f9 => ?_) (2 ^ n + 1) 0 _ _ _ _ _ _ _ _ _ _ _ _ _ (by omega) (by omega)⟩
  rw [forall_eq, q_lbelow n (by omega)]
  exact r_lowest (by omega) (by omega) (Nat.pow_pos (by decide)) hw (h _)
theorem r_chance {d s : Nat → Nat} {n : Nat} {ek ea en : Nat → Nat} {x1 : Int32} {x2 : Int32} {f_this_events : Int32} {f_this_notEvents : Int32} {f_this_deadNow : Int32} {f_this_allMissed : Int32} {f_this_allWanted : Int32} {f_this_allPrinted : Int32} {c_this_told : Nat → Int32} {c_this_head : Nat → Int32} {c_this_eventKind : Nat → Int32} {c_this_eventAt : Nat → Int32} {c_this_eventNozzle : Nat → Int32} {c_this_dots : Nat → Int32} {c_this_now : Nat → Int32} {c_this_hitMany : Nat → Int32} {c_this_hitPass : Nat → Int32} {c_this_hitNozzle : Nat → Int32} {c_this_hitPrints : Nat → Int32} {c_this_canMany : Nat → Int32} {c_this_printedBy : Nat → Int32} {c_this_missing : Nat → Int32} {c_this_prints : Nat → Int32} {c_this_gutter : Nat → Int32} {post : Int64 → (Int32 × Int32 × Int32 × Int32 × Int32 × (Nat → Int32) × (Nat → Int32) × (Nat → Int32) × (Nat → Int32) × (Nat → Int32) × (Nat → Int32) × (Nat → Int32) × (Nat → Int32) × (Nat → Int32) × (Nat → Int32) × (Nat → Int32)) → Prop} (I : RefI d s n ek ea en c_this_told c_this_head f_this_events c_this_eventKind c_this_eventAt c_this_eventNozzle) (h : ∀ u, post (aChance s d n ek ea en x1 x2) u) : wp_X4_chance x1 x2 f_this_events f_this_notEvents f_this_deadNow f_this_allMissed f_this_allWanted f_this_allPrinted c_this_told c_this_head c_this_eventKind c_this_eventAt c_this_eventNozzle c_this_dots c_this_now c_this_hitMany c_this_hitPass c_this_hitNozzle c_this_hitPrints c_this_canMany c_this_printedBy c_this_missing c_this_prints c_this_gutter post := by
  unfold wp_X4_chance
  unfold aChance at h
  have no : ∀ (Q : Int64 → Unit → Prop), Q (-9223372036854775806) () → wp_X4_no (-2) Q := fun Q hQ => hQ
  by_cases c1 : (0 : Int32) ≤ x1 ∧ x1 ≤ 16
  · refine r_inT c1 (no1 one0 ?_)
    by_cases c2 : (0 : Int32) ≤ x2 ∧ x2 ≤ 1
    · refine r_twoT c2 (no1 one0 ?_)
      rw [if_pos ⟨c1, c2⟩] at h
      obtain ⟨c, hc, e⟩ := (q_rng (n := 16) (by decide)).mp c1
      subst e
      obtain ⟨w, hw, e⟩ := (q_rng (n := 1) (by decide)).mp c2
      subst e
      rw [nI_clamp (by omega), nI_clamp (by omega)] at h
      exact r_chanceOf I hc hw (fun u => h _)
    · rw [if_neg (fun q => c2 q.2)] at h
      exact r_twoF c2 (yes1 rfl (no _ (h _)))
  · rw [if_neg (fun q => c1 q.1)] at h
    exact r_inF c1 (yes1 rfl (no _ (h _)))
