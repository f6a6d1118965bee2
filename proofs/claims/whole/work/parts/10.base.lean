/-! numbers as the walks give them -/
def b01 (b : Bool) : Int32 := if b then 1 else 0
theorem b01_0 (b : Bool) : b01 b = 0 ↔ b = false := by cases b <;> decide
theorem b01_1 (b : Bool) : b01 b = 1 ↔ b = true := by cases b <;> decide
theorem b01_or (b : Bool) : (b01 b = 0 ∨ b01 b = 1) ↔ True := by cases b <;> decide
theorem q_in {n N : Nat} (h : n < N) (hN : N < 2 ^ 31) : vp_in (nI n) N ↔ True := ⟨fun _ => trivial, fun _ => vp_in_nI h hN⟩
theorem q_sl : ∀ n, n < 32 → ((nI n &&& 31).toBitVec.smod 32).toNat = n := by decide +kernel
theorem q_sl2 : ∀ n, n < 32 → nI n &&& nI 31 = nI n := by decide +kernel
theorem q_sl3 : ∀ n, n < 32 → ((nI n).toBitVec.smod 32).toNat = n := by decide +kernel
theorem q_shr {a k : Nat} (ha : a < 2 ^ 31) (hk : k < 32) : nI a >>> (nI k &&& nI 31) = nI (a / 2 ^ k) := pk_shrN ha (nI k &&& nI 31) k (q_sl k hk)
theorem q_shl {a k : Nat} (hk : k < 32) (h : a * 2 ^ k < 2 ^ 32) : nI a <<< (nI k &&& nI 31) = nI (a * 2 ^ k) := pk_shlN (nI k &&& nI 31) k (q_sl k hk) h
theorem q_and1 (a : Nat) : nI a &&& nI 1 = nI (a % 2) := fa_mask a 1
theorem q_and255 (a : Nat) : nI a &&& nI 255 = nI (a % 256) := fa_mask a 8
theorem q_and4095 (a : Nat) : nI a &&& nI 4095 = nI (a % 4096) := fa_mask a 12
theorem q_tb (a k : Nat) : a.testBit k = decide (a / 2 ^ k % 2 = 1) := Nat.testBit_eq_decide_div_mod_eq
theorem q_bit {a k : Nat} : (nI (a / 2 ^ k % 2) = nI 1) ↔ a.testBit k = true := by
  rw [nI_eq (by omega) (by omega), q_tb]; simp
theorem q_bitn {a k : Nat} : (nI (a / 2 ^ k % 2) = nI 0) ↔ a.testBit k = false := by
  rw [nI_eq (by omega) (by omega), q_tb]
  have := Nat.mod_two_eq_zero_or_one (a / 2 ^ k)
  rcases this with h | h <;> simp [h]
theorem q_m1 (n : Nat) (h : n < 2 ^ 31) : ¬ nI n = -nI 1 := by
  intro e
  have e2 := congrArg Int32.toInt e
  rw [nI_toInt h] at e2
  have : (-nI 1 : Int32).toInt = -1 := by decide
  omega
theorem q_m1' : (-nI 1 : Int32) = -nI 1 ↔ True := ⟨fun _ => trivial, fun _ => rfl⟩
/-- the two ways of a test -/
theorem q_br {c : Prop} {A B : Prop} (t : c → A) (f : ¬ c → B) : (c → A) ∧ (¬ c → B) := ⟨t, f⟩
theorem q_brn {c : Prop} {A B : Prop} (f : ¬ c → A) (t : c → B) : (¬ c → A) ∧ (c → B) := ⟨f, t⟩
/-- a test by a Bool -/
theorem s_within {x0 x1 x2 : Int32} {post : Int32 → Unit → Prop} (h : post (b01 (decide (x1 ≤ x0 ∧ x0 ≤ x2))) ()) : wp_X3_within x0 x1 x2 post := by
  unfold wp_X3_within
  refine ⟨fun c => ?_, fun c => ⟨fun d => ?_, fun d => ?_⟩⟩
  · rw [decide_eq_false (fun q => absurd q.1 (Int32.not_le.mpr c))] at h; exact h
  · rw [decide_eq_false (fun q => absurd q.2 (Int32.not_le.mpr d))] at h; exact h
  · rw [decide_eq_true ⟨Int32.not_lt.mp c, Int32.not_lt.mp d⟩] at h; exact h
theorem s_in {x0 x1 x2 : Int32} {post : Int32 → Unit → Prop} (h : post (b01 (decide (x1 ≤ x0 ∧ x0 ≤ x2))) ()) : wp_X4_in x0 x1 x2 post := s_within h
/-- the numbers from 0 to n, as a test -/
theorem q_rng {x : Int32} {n : Nat} (hn : n < 2 ^ 31) : ((0 : Int32) ≤ x ∧ x ≤ nI n) ↔ ∃ j, j ≤ n ∧ x = nI j := by
  constructor
  · rintro ⟨h1, h2⟩
    obtain ⟨j, hj, e⟩ := nI_of (Int32.not_lt.mpr h1)
    subst e
    exact ⟨j, (nI_leI hj hn).mp h2, rfl⟩
  · rintro ⟨j, hj, rfl⟩
    exact ⟨nI_pos' (by omega), nI_le hj hn⟩
theorem s_isLine {x : Int32} {post : Int32 → Unit → Prop} (h : post (b01 (decide (0 ≤ x ∧ x ≤ 15))) ()) : wp_X3_isLine x post := s_within ⟨(b01_or _).mpr trivial, h⟩
theorem s_isSheet {x : Int32} {post : Int32 → Unit → Prop} (h : post (b01 (decide (0 ≤ x ∧ x ≤ 3))) ()) : wp_X3_isSheet x post := s_within ⟨(b01_or _).mpr trivial, h⟩
theorem s_isForm {x : Int32} {post : Int32 → Unit → Prop} (h : post (b01 (decide (0 ≤ x ∧ x ≤ 2))) ()) : wp_X3_isForm x post := s_within ⟨(b01_or _).mpr trivial, h⟩
theorem r_isLine {x : Int32} {post : Int32 → Unit → Prop} (h : post (b01 (decide (0 ≤ x ∧ x ≤ 15))) ()) : wp_X4_isLine x post := s_in ⟨(b01_or _).mpr trivial, h⟩
theorem r_isColumn {x : Int32} {post : Int32 → Unit → Prop} (h : post (b01 (decide (0 ≤ x ∧ x ≤ 7))) ()) : wp_X4_isColumn x post := s_in ⟨(b01_or _).mpr trivial, h⟩
theorem r_isTwo {x : Int32} {post : Int32 → Unit → Prop} (h : post (b01 (decide (0 ≤ x ∧ x ≤ 1))) ()) : wp_X4_isTwo x post := s_in ⟨(b01_or _).mpr trivial, h⟩
theorem r_isThree {x : Int32} {post : Int32 → Unit → Prop} (h : post (b01 (decide (0 ≤ x ∧ x ≤ 2))) ()) : wp_X4_isThree x post := s_in ⟨(b01_or _).mpr trivial, h⟩
theorem r_isSheet {x : Int32} {post : Int32 → Unit → Prop} (h : post (b01 (decide (0 ≤ x ∧ x ≤ 3))) ()) : wp_X4_isSheet x post := s_in ⟨(b01_or _).mpr trivial, h⟩
/-- bits -/
theorem r_isIn {a k : Nat} {post : Int32 → Unit → Prop} (ha : a < 2 ^ 31) (hk : k < 32) (h : post (b01 (a.testBit k)) ()) : wp_X4_isIn (nI a) (nI k) post := by
  simp only [wp_X4_isIn, forall_eq, fa_lit, q_shr ha hk, q_and1, q_bit]
  cases hb : a.testBit k <;> rw [hb] at h <;> simp <;> exact h
theorem s_isLiving {c : Nat → Int32} {a j p : Nat} {post : Int32 → Unit → Prop} (hj : j < 8) (hp : p < 32) (hc : c j = nI a) (ha : a < 2 ^ 31) (h : post (b01 (a.testBit p)) ()) : wp_X1_isLiving (nI j) (nI p) c post := by
  simp (disch := omega) only [wp_X1_isLiving, forall_eq, fa_lit, q_in, nI_clamp, hc, q_shr ha hp, q_and1, q_bit, true_and]
  cases hb : a.testBit p <;> rw [hb] at h <;> simp <;> exact h
theorem s_isDot {c : Nat → Int32} {a y x : Nat} {post : Int32 → Unit → Prop} (hy : y < 16) (hx : x < 32) (hc : c y = nI a) (ha : a < 2 ^ 31) (h : post (b01 (a.testBit x)) ()) : wp_X1_isDot (nI y) (nI x) c post := by
  simp (disch := omega) only [wp_X1_isDot, forall_eq, fa_lit, q_in, nI_clamp, hc, q_shr ha hx, q_and1, q_bit, true_and]
  cases hb : a.testBit x <;> rw [hb] at h <;> simp <;> exact h
theorem s_goesRight {p : Nat} {post : Int32 → Unit → Prop} (h : post (b01 (decide (p % 2 = 0))) ()) : wp_X1_goesRight (nI p) post := by
  simp (disch := omega) only [wp_X1_goesRight, fa_lit, q_and1, nI_eq]
  by_cases hb : p % 2 = 0
  · simp [hb]; simp [hb] at h; exact h
  · simp [hb]; simp [hb] at h; exact h
theorem s_passOf {c : Nat → Int32} {y i q : Nat} {post : Int32 → Unit → Prop} (hy : y < 16) (hi : i < 12) (hq : q < 96) (hc : c (12 * y + i) = nI q) (h : post (nI (q / 8)) ()) : wp_X1_passOf (nI y) (nI i) c post := by
  rw [Nat.mul_comm] at hc
  simp (disch := omega) only [wp_X1_passOf, forall_eq, fa_lit, pk_mul, nI_add, q_in, nI_clamp, hc, true_and, pk_div]
  exact h
theorem s_nozzleOf {c : Nat → Int32} {y i q : Nat} {post : Int32 → Unit → Prop} (hy : y < 16) (hi : i < 12) (hq : q < 96) (hc : c (12 * y + i) = nI q) (h : post (nI (q % 8)) ()) : wp_X1_nozzleOf (nI y) (nI i) c post := by
  rw [Nat.mul_comm] at hc
  simp (disch := omega) only [wp_X1_nozzleOf, forall_eq, fa_lit, pk_mul, nI_add, q_in, nI_clamp, hc, true_and]
  rw [← pk_rem (by omega) (by decide) (by decide)] at h
  exact h
/-- Arrays.fill -/
theorem s_fill {n : Nat} {x : Int32} {c : Nat → Int32} {post : (Nat → Int32) → Prop} (hn : n < 2 ^ 31) (h : ∀ d : Nat → Int32, (∀ k, k < n → d k = x) → (∀ k, n ≤ k → d k = c k) → post d) : wp_J7_fill_53178 n x c post := by
  unfold wp_J7_fill_53178
  rw [forall_eq]
  have key : ∀ (m i : Nat) (d : Nat → Int32), i ≤ n → n - i < m → (∀ k, k < i → d k = x) → (∀ k, i ≤ k → d k = c k) → wq_J7_fill_53178_5 n x (nI n) post (fun d => post d) m (nI i) d := by
    intro m
    induction m with
    | zero => intro i d h1 h2; omega
    | succ m ih =>
      intro i d h1 h2 h3 h4
      unfold wq_J7_fill_53178_5
      refine ⟨fun c0 => ?_, fun c0 => ?_⟩
      · have : n ≤ i := (nI_leI hn (by omega)).mp c0
        exact h d (fun k hk => h3 k (by omega)) (fun k hk => h4 k (by omega))
      · have hi : i < n := by
          rcases Nat.lt_or_ge i n with q | q
          · exact q
          · exact absurd (nI_le q (by omega)) c0
        refine ⟨vp_in_nI hi hn, fun v hv => ?_⟩
        rw [hv, nI_1, nI_clamp (by omega)]
        refine ih (i + 1) _ (by omega) (by omega) (fun k hk => ?_) (fun k hk => ?_)
        · by_cases e : k = i
          · subst e; exact pk_us
          · rw [pk_un e]; exact h3 k (by omega)
        · rw [pk_un (by omega)]; exact h4 k (by omega)
  exact ⟨n + 1, key (n + 1) 0 c (by omega) (by omega) (fun k hk => by omega) (fun k _ => rfl)⟩
