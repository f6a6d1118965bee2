/-! sheets -/
abbrev Sh : Type := (Nat → Bool) × (Nat → Nat) × (Nat → Nat) × (Nat → Nat → Int32) × Int32
def ClsSh (σ : Sh) (gf gs gl : Nat → Int32) (gi : Nat → Nat → Int32) (fi : Int32) : Prop := fi = σ.2.2.2.2 ∧ ∀ j, j < 4 → gf j = nI (σ.2.1 j) ∧ gs j = nI (σ.2.2.1 j) ∧ gl j = b01 (!σ.1 j) ∧ (∀ k, k < 60 → gi j k = σ.2.2.2.1 j k) ∧ σ.2.1 j ≤ 2 ∧ σ.2.2.1 j ≤ 60
def RefSh (σ : Sh) (ct cf cs ci : Nat → Int32) (fi : Int32) : Prop := fi = σ.2.2.2.2 ∧ ∀ j, j < 4 → cf j = nI (σ.2.1 j) ∧ cs j = nI (σ.2.2.1 j) ∧ ct j = b01 (σ.1 j) ∧ (∀ k, k < 60 → ci (60 * j + k) = σ.2.2.2.1 j k) ∧ σ.2.1 j ≤ 2 ∧ σ.2.2.1 j ≤ 60
def fnd5 (σ : Sh) (e : Nat) : Int32 × Sh := ((-10 : Int32) - nI e, σ.1, σ.2.1, σ.2.2.1, σ.2.2.2.1, nI e)
/-- sheet -/
def opSheet (σ : Sh) (x1 x2 x3 : Int32) : Int32 × Sh := if (((0 : Int32) ≤ x1 ∧ x1 ≤ 3) ∧ ((0 : Int32) ≤ x2 ∧ x2 ≤ 2)) ∧ x3 ≤ 60 then (if (0 : Int32) ≤ x3 then (x3, va_up σ.1 x1.toNatClampNeg true, va_up σ.2.1 x1.toNatClampNeg x2.toNatClampNeg, va_up σ.2.2.1 x1.toNatClampNeg x3.toNatClampNeg, va_up σ.2.2.2.1 x1.toNatClampNeg (fun _ => 0), σ.2.2.2.2) else fnd5 σ 5) else (-2, σ)
theorem up_at {α : Type} (f : Nat → α) (j : Nat) (v : α) (k : Nat) : va_up f j v k = if k = j then v else f k := by
  by_cases c : k = j
  · subst c; rw [va_up_self, if_pos rfl]
  · rw [va_up_ne _ _ c, if_neg c]
theorem s_sheet {σ : Sh} {x1 : Int32} {x2 : Int32} {x3 : Int32} {f_this_latestFinding : Int32} {g_form : Nat → Int32} {g_size : Nat → Int32} {g_lost : Nat → Int32} {g_items : Nat → Nat → Int32} {post : Int32 → (Int32 × (Nat → Int32) × (Nat → Int32) × (Nat → Int32) × (Nat → Nat → Int32)) → Prop} (C : ClsSh σ g_form g_size g_lost g_items f_this_latestFinding) (h : ∀ fi gf gs gl gi, ClsSh (opSheet σ x1 x2 x3).2 gf gs gl gi fi → post (opSheet σ x1 x2 x3).1 (fi, gf, gs, gl, gi)) : wp_X3_sheet x1 x2 x3 f_this_latestFinding g_form g_size g_lost g_items post := by
  obtain ⟨f0, c0⟩ := id C
  unfold wp_X3_sheet
  unfold opSheet at h
  by_cases c1 : ((0 : Int32) ≤ x1 ∧ x1 ≤ 3)
  · refine s_shT c1 (no1 one0 ?_)
    by_cases c2 : ((0 : Int32) ≤ x2 ∧ x2 ≤ 2)
    · refine s_formT c2 (no1 one0 ?_)
      by_cases c3 : x3 ≤ 60
      · refine yes1 c3 ?_
        simp only [if_pos (And.intro (And.intro c1 c2) c3)] at h
        by_cases c4 : (0 : Int32) ≤ x3
        · simp only [if_pos c4] at h
          obtain ⟨j, hj, e⟩ := (q_rng (n := 3) (by decide)).mp c1
          subst e
          obtain ⟨f, hf, e⟩ := (q_rng (n := 2) (by decide)).mp c2
          subst e
          obtain ⟨v, hv, e⟩ := (q_rng (n := 60) (by decide)).mp ⟨c4, c3⟩
          subst e
          rw [nI_clamp (by omega), nI_clamp (by omega), nI_clamp (by omega)] at h
          refine yes1 c4 ⟨vp_in_nI (by omega) (by omega), ?_⟩
          unfold wp_X2_begin
          refine s_fill (by decide) (fun u hu _ => ?_)
          rw [nI_clamp (by omega)]
          refine h _ _ _ _ _ ⟨f0, fun i hi => ?_⟩
          dsimp only
          simp only [up_at]
          by_cases e : i = j
          · simp only [if_pos e]
            exact ⟨trivial, trivial, rfl, fun k hk => hu k hk, hf, hv⟩
          · simp only [if_neg e]
            exact c0 i hi
        · simp only [if_neg c4] at h
          exact no1 c4 (h _ _ _ _ _ ⟨rfl, c0⟩)
      · simp only [if_neg (fun q : _ ∧ _ => c3 q.2)] at h
        exact no1 c3 (h _ _ _ _ _ C)
    · simp only [if_neg (fun q : (_ ∧ _) ∧ _ => c2 q.1.2)] at h
      exact s_formF c2 (yes1 rfl (h _ _ _ _ _ C))
  · simp only [if_neg (fun q : (_ ∧ _) ∧ _ => c1 q.1.1)] at h
    exact s_shF c1 (yes1 rfl (h _ _ _ _ _ C))
theorem nar01 (b : Bool) : vp_nar .boolean (b01 b) = b01 b := by cases b <;> rfl
theorem r_sheet {σ : Sh} {x1 : Int32} {x2 : Int32} {x3 : Int32} {f_this_finding : Int32} {c_this_isThere : Nat → Int32} {c_this_forms : Nat → Int32} {c_this_sizes : Nat → Int32} {c_this_items : Nat → Int32} {post : Int32 → (Int32 × (Nat → Int32) × (Nat → Int32) × (Nat → Int32) × (Nat → Int32)) → Prop} (C : RefSh σ c_this_isThere c_this_forms c_this_sizes c_this_items f_this_finding) (h : ∀ fi ct cf cs ci, RefSh (opSheet σ x1 x2 x3).2 ct cf cs ci fi → post (opSheet σ x1 x2 x3).1 (fi, ct, cf, cs, ci)) : wp_X4_sheet x1 x2 x3 f_this_finding c_this_isThere c_this_forms c_this_sizes c_this_items post := by
  obtain ⟨f0, c0⟩ := id C
  unfold wp_X4_sheet
  unfold opSheet at h
  by_cases c1 : ((0 : Int32) ≤ x1 ∧ x1 ≤ 3)
  · refine r_shT c1 (no1 one0 ?_)
    by_cases c2 : ((0 : Int32) ≤ x2 ∧ x2 ≤ 2)
    · refine r_inT c2 (no1 one0 ?_)
      by_cases c3 : x3 ≤ 60
      · refine yes1 c3 ?_
        simp only [if_pos (And.intro (And.intro c1 c2) c3)] at h
        by_cases c4 : (0 : Int32) ≤ x3
        · simp only [if_pos c4] at h
          obtain ⟨j, hj, e⟩ := (q_rng (n := 3) (by decide)).mp c1
          subst e
          obtain ⟨f, hf, e⟩ := (q_rng (n := 2) (by decide)).mp c2
          subst e
          obtain ⟨v, hv, e⟩ := (q_rng (n := 60) (by decide)).mp ⟨c4, c3⟩
          subst e
          rw [nI_clamp (by omega), nI_clamp (by omega), nI_clamp (by omega)] at h
          refine yes1 c4 ⟨vp_in_nI (by omega) (by omega), vp_in_nI (by omega) (by omega), vp_in_nI (by omega) (by omega), ?_⟩
          rw [nI_clamp (by omega)]
          have key : ∀ (ct cf cs : Nat → Int32) (Ke : (Nat → Int32) → Prop), (∀ ci, (∀ k, k < 240 → ci k = if 60 * j ≤ k ∧ k < 60 * j + 60 then 0 else c_this_items k) → Ke ci) → ∀ (m k : Nat) (ci : Nat → Int32), k ≤ 60 → 60 - k < m → (∀ i, i < 240 → ci i = if 60 * j ≤ i ∧ i < 60 * j + k then 0 else c_this_items i) → wq_X4_sheet_59 (nI j) (nI v) f_this_finding ct cf cs post Ke m (nI k) ci := by
            intro ct cf cs Ke hK m
            induction m with
            | zero => intro k ci g1 g2; omega
            | succ m ih =>
              intro k ci g1 g2 hI
              unfold wq_X4_sheet_59
              rw [show ((60 : Int32) ≤ nI k) ↔ 60 ≤ k from nI_leI (a := 60) (by omega) (by omega)]
              refine ⟨fun q => hK ci (by have e : k = 60 := by omega
                                         subst e; exact hI), fun q => ?_⟩
              rw [forall_eq, forall_eq, show (60 : Int32) = nI 60 from rfl, pk_mul, nI_add]
              refine ⟨vp_in_nI (by omega) (by omega), ?_⟩
              rw [forall_eq, nI_1, nI_clamp (by omega)]
              refine ih (k + 1) _ (by omega) (by omega) (fun i hi => ?_)
              by_cases e : i = 60 * j + k
              · rw [e, pk_us, if_pos (by omega)]
              · rw [pk_un e, hI i hi]
                by_cases z : 60 * j ≤ i ∧ i < 60 * j + k
                · rw [if_pos z, if_pos (by omega)]
                · rw [if_neg z, if_neg (by omega)]
          refine ⟨61, key _ _ _ _ (fun ci hci => ?_) 61 0 _ (by omega) (by omega) (fun i hi => by rw [if_neg (by omega)])⟩
          refine h _ _ _ _ _ ⟨f0, fun i hi => ?_⟩
          dsimp only
          by_cases e : i = j
          · subst e
            rw [va_up_self, va_up_self, va_up_self, va_up_self, pk_us, pk_us, pk_us]
            refine ⟨rfl, rfl, rfl, fun k hk => ?_, hf, hv⟩
            rw [hci _ (by omega), if_pos (by omega)]
          · rw [va_up_ne _ _ e, va_up_ne _ _ e, va_up_ne _ _ e, va_up_ne _ _ e, pk_un e, pk_un e, pk_un e]
            obtain ⟨b1, b2, b3, b4, b5, b6⟩ := c0 i hi
            refine ⟨b1, b2, b3, fun k hk => ?_, b5, b6⟩
            rw [hci _ (by omega), if_neg (by omega)]; exact b4 k hk
        · simp only [if_neg c4] at h
          exact no1 c4 (h _ _ _ _ _ ⟨rfl, c0⟩)
      · simp only [if_neg (fun q : _ ∧ _ => c3 q.2)] at h
        exact no1 c3 (h _ _ _ _ _ C)
    · simp only [if_neg (fun q : (_ ∧ _) ∧ _ => c2 q.1.2)] at h
      exact r_inF c2 (yes1 rfl (h _ _ _ _ _ C))
  · simp only [if_neg (fun q : (_ ∧ _) ∧ _ => c1 q.1.1)] at h
    exact r_shF c1 (yes1 rfl (h _ _ _ _ _ C))
/-- lose -/
def opLose (σ : Sh) (x1 : Int32) : Int32 × Sh := if ((0 : Int32) ≤ x1 ∧ x1 ≤ 3) then (if σ.1 x1.toNatClampNeg = true then (nI (σ.2.2.1 x1.toNatClampNeg), va_up σ.1 x1.toNatClampNeg false, σ.2.1, σ.2.2.1, σ.2.2.2.1, σ.2.2.2.2) else fnd5 σ 1) else (-2, σ)
theorem b01n (b : Bool) : b01 (!b) = 0 ↔ b = true := by cases b <;> decide
theorem s_lose {σ : Sh} {gf : Nat → Int32} {gi : Nat → Nat → Int32} {x1 : Int32} {f_this_latestFinding : Int32} {g_size : Nat → Int32} {g_lost : Nat → Int32} {post : Int32 → (Int32 × (Nat → Int32)) → Prop} (C : ClsSh σ gf g_size g_lost gi f_this_latestFinding) (h : ∀ fi gl, ClsSh (opLose σ x1).2 gf g_size gl gi fi → post (opLose σ x1).1 (fi, gl)) : wp_X3_lose x1 f_this_latestFinding g_size g_lost post := by
  obtain ⟨f0, c0⟩ := id C
  unfold wp_X3_lose
  unfold opLose at h
  by_cases c1 : ((0 : Int32) ≤ x1 ∧ x1 ≤ 3)
  · refine s_shT c1 (no2 one0 ?_)
    simp only [if_pos c1] at h
    obtain ⟨j, hj, e⟩ := (q_rng (n := 3) (by decide)).mp c1
    subst e
    rw [nI_clamp (by omega)] at h
    obtain ⟨b1, b2, b3, b4, b5, b6⟩ := c0 j (by omega)
    refine ⟨vp_in_nI (by omega) (by omega), ?_⟩
    rw [nI_clamp (by omega), b3, b01n]
    by_cases c : σ.1 j = true
    · simp only [if_pos c] at h
      refine yes1 c ⟨vp_in_nI (by omega) (by omega), vp_in_nI (by omega) (by omega), ?_⟩
      rw [b2]
      refine h _ _ ⟨f0, fun i hi => ?_⟩
      dsimp only
      simp only [up_at]
      obtain ⟨d1, d2, d3, d4, d5, d6⟩ := c0 i hi
      by_cases e : i = j
      · simp only [if_pos e]; exact ⟨d1, d2, rfl, d4, d5, d6⟩
      · simp only [if_neg e]; exact ⟨d1, d2, d3, d4, d5, d6⟩
    · simp only [if_neg c] at h
      exact no1 c (h _ _ ⟨rfl, c0⟩)
  · simp only [if_neg c1] at h
    exact s_shF c1 (yes2 rfl (h _ _ C))
theorem r_lose {σ : Sh} {cf ci : Nat → Int32} {x1 : Int32} {f_this_finding : Int32} {c_this_isThere : Nat → Int32} {c_this_sizes : Nat → Int32} {post : Int32 → (Int32 × (Nat → Int32)) → Prop} (C : RefSh σ c_this_isThere cf c_this_sizes ci f_this_finding) (h : ∀ fi ct, RefSh (opLose σ x1).2 ct cf c_this_sizes ci fi → post (opLose σ x1).1 (fi, ct)) : wp_X4_lose x1 f_this_finding c_this_isThere c_this_sizes post := by
  obtain ⟨f0, c0⟩ := id C
  unfold wp_X4_lose
  unfold opLose at h
  by_cases c1 : ((0 : Int32) ≤ x1 ∧ x1 ≤ 3)
  · refine r_shT c1 (no2 one0 ?_)
    simp only [if_pos c1] at h
    obtain ⟨j, hj, e⟩ := (q_rng (n := 3) (by decide)).mp c1
    subst e
    rw [nI_clamp (by omega)] at h
    obtain ⟨b1, b2, b3, b4, b5, b6⟩ := c0 j (by omega)
    refine ⟨vp_in_nI (by omega) (by omega), ?_⟩
    rw [nI_clamp (by omega), b3, b01_0]
    by_cases c : σ.1 j = true
    · simp only [if_pos c] at h
      refine no2 (by rw [c]; decide) ⟨vp_in_nI (by omega) (by omega), vp_in_nI (by omega) (by omega), ?_⟩
      rw [b2]
      refine h _ _ ⟨f0, fun i hi => ?_⟩
      dsimp only
      simp only [up_at]
      obtain ⟨d1, d2, d3, d4, d5, d6⟩ := c0 i hi
      by_cases e : i = j
      · subst e; simp only [if_pos rfl]; rw [pk_us]; exact ⟨d1, d2, rfl, d4, d5, d6⟩
      · simp only [if_neg e]; rw [pk_un e]; exact ⟨d1, d2, d3, d4, d5, d6⟩
    · simp only [if_neg c] at h
      exact yes2 (by cases q : σ.1 j with | false => rfl | true => exact absurd q c) (h _ _ ⟨rfl, c0⟩)
  · simp only [if_neg c1] at h
    exact r_shF c1 (yes2 rfl (h _ _ C))
/-- what an item lacks -/
def flt (σ : Sh) (j f : Nat) (x3 : Int32) : Nat := if σ.1 j = true then (if σ.2.1 j = f then (if (0 : Int32) ≤ x3 ∧ x3 < nI (σ.2.2.1 j) then 0 else 2) else 3) else 1
theorem flt_le (σ : Sh) (j f : Nat) (x3 : Int32) : flt σ j f x3 ≤ 3 := by
  unfold flt
  by_cases a : σ.1 j = true
  · rw [if_pos a]
    by_cases b : σ.2.1 j = f
    · rw [if_pos b]
      by_cases c : (0 : Int32) ≤ x3 ∧ x3 < nI (σ.2.2.1 j)
      · rw [if_pos c]; omega
      · rw [if_neg c]; omega
    · rw [if_neg b]; omega
  · rw [if_neg a]; omega
theorem s_fault {σ : Sh} {gf gs gl : Nat → Int32} {gi : Nat → Nat → Int32} {fi : Int32} (C : ClsSh σ gf gs gl gi fi) {j f : Nat} (hj : j < 4) (hf : f ≤ 2) {x3 : Int32} {post : Int32 → Unit → Prop} (h : post (nI (flt σ j f x3)) ()) : wp_X2_faultOf (nI f) x3 (gf j) (gs j) (gl j) post := by
  obtain ⟨b1, b2, b3, b4, b5, b6⟩ := C.2 j hj
  unfold wp_X2_faultOf
  rw [b1, b2, b3, b01n, nI_eq (by omega) (by omega)]
  unfold flt at h
  by_cases a : σ.1 j = true
  · rw [if_pos a] at h
    refine yes1 a ?_
    by_cases b : σ.2.1 j = f
    · rw [if_pos b] at h
      refine yes1 b ?_
      by_cases c : (0 : Int32) ≤ x3
      · refine no1 (Int32.not_lt.mpr c) ?_
        by_cases d : x3 < nI (σ.2.2.1 j)
        · rw [if_pos ⟨c, d⟩] at h; exact yes1 d h
        · rw [if_neg (fun q => d q.2)] at h; exact no1 d h
      · rw [if_neg (fun q => c q.1)] at h
        exact yes1 (Int32.not_le.mp c) h
    · rw [if_neg b] at h; exact no1 b h
  · rw [if_neg a] at h; exact no1 a h
theorem lt_le1 {x : Int32} {v : Nat} (hv : v ≤ 60) : ((0 : Int32) ≤ x ∧ x < nI v) ↔ ((0 : Int32) ≤ x ∧ x ≤ nI v - 1) := by
  constructor
  · rintro ⟨h1, h2⟩
    refine ⟨h1, ?_⟩
    obtain ⟨a, ha, e⟩ := nI_of (Int32.not_lt.mpr h1)
    subst e
    have := (nI_ltI ha (by omega)).mp h2
    rw [show (1 : Int32) = nI 1 from rfl, pk_sub (by omega)]
    exact nI_le (by omega) (by omega)
  · rintro ⟨h1, h2⟩
    refine ⟨h1, ?_⟩
    obtain ⟨a, ha, e⟩ := nI_of (Int32.not_lt.mpr h1)
    subst e
    by_cases c : v = 0
    · subst c
      exfalso
      have e : nI 0 - 1 = (-1 : Int32) := rfl
      rw [e] at h2
      exact absurd (m1_lt ha) (Int32.not_lt.mpr h2)
    · rw [show (1 : Int32) = nI 1 from rfl, pk_sub (by omega)] at h2
      have := (nI_leI ha (by omega)).mp h2
      exact (nI_ltI ha (by omega)).mpr (by omega)
theorem r_lacks {σ : Sh} {x3 : Int32} {c_this_isThere : Nat → Int32} {c_this_forms : Nat → Int32} {c_this_sizes : Nat → Int32} {post : Int32 → Unit → Prop} {ci : Nat → Int32} {fi : Int32} (C : RefSh σ c_this_isThere c_this_forms c_this_sizes ci fi) {j f : Nat} (hj : j < 4) (hf : f ≤ 2) (h : post (nI (flt σ j f x3)) ()) : wp_X4_lacks (nI j) (nI f) x3 c_this_isThere c_this_forms c_this_sizes post := by
  obtain ⟨b1, b2, b3, b4, b5, b6⟩ := C.2 j hj
  unfold wp_X4_lacks
  refine ⟨vp_in_nI (by omega) (by omega), ?_⟩
  rw [nI_clamp (by omega), b3, b01_0]
  unfold flt at h
  by_cases a : σ.1 j = true
  · rw [if_pos a] at h
    refine no2 (by rw [a]; decide) ⟨vp_in_nI (by omega) (by omega), ?_⟩
    rw [forall_eq, b1, nI_eq (by omega) (by omega)]
    by_cases b : σ.2.1 j = f
    · rw [if_pos b] at h
      refine yes1 b ⟨vp_in_nI (by omega) (by omega), ?_⟩
      rw [forall_eq, forall_eq, b2]
      by_cases c : (0 : Int32) ≤ x3 ∧ x3 < nI (σ.2.2.1 j)
      · rw [if_pos c] at h
        exact r_inT ((lt_le1 b6).mp c) (no1 one0 h)
      · rw [if_neg c] at h
        exact r_inF (fun q => c ((lt_le1 b6).mpr q)) (yes1 rfl h)
    · rw [if_neg b] at h; exact no1 b h
  · rw [if_neg a] at h
    exact yes2 (by cases q : σ.1 j with | false => rfl | true => exact absurd q a) h
def nrw (f : Nat) (v : Int32) : Int32 := if f = 0 then v.toInt8.toInt32 else if f = 1 then v.toInt16.toInt32 else v
theorem s_fillS {f i : Nat} {v : Int32} {it : Nat → Int32} (hf : f ≤ 2) (hi : i < 60) {post : (Nat → Int32) → Prop} (h : post (upd it i (nrw f v))) : wp_X2_fill (nI i) v (nI f) it post := by
  unfold wp_X2_fill
  unfold nrw at h
  have q0 : (nI f = 0) ↔ f = 0 := nI_eq (b := 0) (by omega) (by omega)
  have q1 : (nI f = 1) ↔ f = 1 := nI_eq (b := 1) (by omega) (by omega)
  rw [q0, q1, nI_clamp (by omega)]
  simp only [forall_eq]
  have hv := vp_in_nI (N := 60) hi (by omega)
  by_cases a : f = 0
  · rw [if_pos a] at h; exact yes2 a ⟨hv, h⟩
  · rw [if_neg a] at h
    refine no2 a ?_
    by_cases b : f = 1
    · rw [if_pos b] at h; exact yes2 b ⟨hv, h⟩
    · rw [if_neg b] at h; exact no2 b ⟨hv, h⟩
theorem r_keep {f j i : Nat} {v : Int32} {cf ci : Nat → Int32} (hj : j < 4) (hf : f ≤ 2) (hcf : cf j = nI f) (hi : i < 60) {post : (Nat → Int32) → Prop} (h : post (upd ci (60 * j + i) (nrw f v))) : wp_X4_keep (nI j) (nI i) v cf ci post := by
  unfold wp_X4_keep
  unfold nrw at h
  have q0 : (nI f = 0) ↔ f = 0 := nI_eq (b := 0) (by omega) (by omega)
  have q1 : (nI f = 1) ↔ f = 1 := nI_eq (b := 1) (by omega) (by omega)
  simp only [forall_eq]
  rw [show (60 : Int32) = nI 60 from rfl, pk_mul, nI_add, nI_clamp (n := j) (by omega), nI_clamp (by omega), hcf, q0, q1]
  have hv := vp_in_nI (n := 60 * j + i) (N := 240) (by omega) (by omega)
  have hv4 := vp_in_nI (n := j) (N := 4) (by omega) (by omega)
  refine ⟨hv4, ?_⟩
  by_cases a : f = 0
  · rw [if_pos a] at h; exact yes2 a ⟨hv, h⟩
  · rw [if_neg a] at h
    refine no2 a ⟨hv4, ?_⟩
    by_cases b : f = 1
    · rw [if_pos b] at h; exact yes2 b ⟨hv, h⟩
    · rw [if_neg b] at h; exact no2 b ⟨hv, h⟩
def shIt (σ : Sh) (j : Nat) (row : Nat → Int32) : Sh := (σ.1, σ.2.1, σ.2.2.1, va_up σ.2.2.2.1 j row, σ.2.2.2.2)
theorem cls_it {σ : Sh} {gf gs gl : Nat → Int32} {gi : Nat → Nat → Int32} {fi : Int32} (C : ClsSh σ gf gs gl gi fi) {j : Nat} {row row' : Nat → Int32} (hr : ∀ k, k < 60 → row' k = row k) : ClsSh (shIt σ j row) gf gs gl (va_up gi j row') fi := by
  refine ⟨C.1, fun i hi => ?_⟩
  obtain ⟨d1, d2, d3, d4, d5, d6⟩ := C.2 i hi
  refine ⟨d1, d2, d3, fun k hk => ?_, d5, d6⟩
  show va_up gi j row' i k = va_up σ.2.2.2.1 j row i k
  simp only [up_at]
  by_cases e : i = j
  · simp only [if_pos e]; exact hr k hk
  · simp only [if_neg e]; exact d4 k hk
theorem ref_it {σ : Sh} {ct cf cs ci ci' : Nat → Int32} {fi : Int32} (C : RefSh σ ct cf cs ci fi) {j : Nat} {row : Nat → Int32} (hj : j < 4) (hr : ∀ k, k < 60 → ci' (60 * j + k) = row k) (ho : ∀ k, k < 240 → (k < 60 * j ∨ 60 * j + 60 ≤ k) → ci' k = ci k) : RefSh (shIt σ j row) ct cf cs ci' fi := by
  refine ⟨C.1, fun i hi => ?_⟩
  obtain ⟨d1, d2, d3, d4, d5, d6⟩ := C.2 i hi
  refine ⟨d1, d2, d3, fun k hk => ?_, d5, d6⟩
  show ci' (60 * i + k) = va_up σ.2.2.2.1 j row i k
  simp only [up_at]
  by_cases e : i = j
  · subst e; simp only [if_pos rfl]; exact hr k hk
  · simp only [if_neg e]; rw [ho _ (by omega) (by omega)]; exact d4 k hk
/-- put, get -/
def opPut (σ : Sh) (x1 x2 x3 x4 : Int32) : Int32 × Sh := if ((0 : Int32) ≤ x1 ∧ x1 ≤ 3) ∧ ((0 : Int32) ≤ x2 ∧ x2 ≤ 2) then (if flt σ x1.toNatClampNeg x2.toNatClampNeg x3 = 0 then (1, shIt σ x1.toNatClampNeg (upd (σ.2.2.2.1 x1.toNatClampNeg) x3.toNatClampNeg (nrw (σ.2.1 x1.toNatClampNeg) x4))) else fnd5 σ (flt σ x1.toNatClampNeg x2.toNatClampNeg x3)) else (-2, σ)
def opGet (σ : Sh) (x1 x2 x3 : Int32) : Int32 × Sh := if ((0 : Int32) ≤ x1 ∧ x1 ≤ 3) ∧ ((0 : Int32) ≤ x2 ∧ x2 ≤ 2) then (if flt σ x1.toNatClampNeg x2.toNatClampNeg x3 = 0 then (σ.2.2.2.1 x1.toNatClampNeg x3.toNatClampNeg, σ) else (-2147483648, (fnd5 σ (flt σ x1.toNatClampNeg x2.toNatClampNeg x3)).2)) else (-2147483648, σ)
theorem flt_0 {σ : Sh} {j f : Nat} {x3 : Int32} (h6 : σ.2.2.1 j ≤ 60) (h : flt σ j f x3 = 0) : ∃ i, i < 60 ∧ i < σ.2.2.1 j ∧ x3 = nI i := by
  unfold flt at h
  by_cases a : σ.1 j = true
  · rw [if_pos a] at h
    by_cases b : σ.2.1 j = f
    · rw [if_pos b] at h
      by_cases c : (0 : Int32) ≤ x3 ∧ x3 < nI (σ.2.2.1 j)
      · obtain ⟨i, hi, e⟩ := nI_of (Int32.not_lt.mpr c.1)
        subst e
        have := (nI_ltI hi (by omega)).mp c.2
        exact ⟨i, by omega, this, rfl⟩
      · rw [if_neg c] at h; omega
    · rw [if_neg b] at h; omega
  · rw [if_neg a] at h; omega
theorem s_put {σ : Sh} {x1 : Int32} {x2 : Int32} {x3 : Int32} {x4 : Int32} {f_this_latestFinding : Int32} {g_form : Nat → Int32} {g_size : Nat → Int32} {g_lost : Nat → Int32} {g_items : Nat → Nat → Int32} {post : Int32 → (Int32 × (Nat → Nat → Int32)) → Prop} (C : ClsSh σ g_form g_size g_lost g_items f_this_latestFinding) (h : ∀ fi gi, ClsSh (opPut σ x1 x2 x3 x4).2 g_form g_size g_lost gi fi → post (opPut σ x1 x2 x3 x4).1 (fi, gi)) : wp_X3_put x1 x2 x3 x4 f_this_latestFinding g_form g_size g_lost g_items post := by
  obtain ⟨f0, c0⟩ := id C
  unfold wp_X3_put
  unfold opPut at h
  by_cases c1 : ((0 : Int32) ≤ x1 ∧ x1 ≤ 3)
  · refine s_shT c1 (no1 one0 ?_)
    by_cases c2 : ((0 : Int32) ≤ x2 ∧ x2 ≤ 2)
    · refine s_formT c2 (no2 one0 ?_)
      simp only [if_pos (And.intro c1 c2)] at h
      obtain ⟨j, hj, e⟩ := (q_rng (n := 3) (by decide)).mp c1
      subst e
      obtain ⟨f, hf, e⟩ := (q_rng (n := 2) (by decide)).mp c2
      subst e
      rw [nI_clamp (n := j) (by omega), nI_clamp (by omega)] at h
      refine ⟨vp_in_nI (by omega) (by omega), ?_⟩
      rw [nI_clamp (by omega)]
      refine s_fault C (by omega) hf ?_
      have hl := flt_le σ j f x3
      have q0 : (nI (flt σ j f x3) = 0) ↔ flt σ j f x3 = 0 := nI_eq (b := 0) (by omega) (by omega)
      rw [q0]
      by_cases c : flt σ j f x3 = 0
      · simp only [if_pos c] at h
        obtain ⟨b1, b2, b3, b4, b5, b6⟩ := c0 j (by omega)
        obtain ⟨i, i1, i2, e⟩ := flt_0 b6 c
        subst e
        rw [nI_clamp (by omega)] at h
        refine yes1 c ⟨vp_in_nI (by omega) (by omega), ?_⟩
        rw [b1]
        refine s_fillS b5 i1 (h _ _ (cls_it C (fun k hk => ?_)))
        by_cases e : k = i
        · subst e; rw [pk_us, pk_us]
        · rw [pk_un e, pk_un e]; exact b4 k hk
      · simp only [if_neg c] at h
        exact no1 c (h _ _ ⟨rfl, c0⟩)
    · simp only [if_neg (fun q : _ ∧ _ => c2 q.2)] at h
      exact s_formF c2 (yes2 rfl (h _ _ C))
  · simp only [if_neg (fun q : _ ∧ _ => c1 q.1)] at h
    exact s_shF c1 (yes1 rfl (h _ _ C))
theorem r_put {σ : Sh} {x1 : Int32} {x2 : Int32} {x3 : Int32} {x4 : Int32} {f_this_finding : Int32} {c_this_isThere : Nat → Int32} {c_this_forms : Nat → Int32} {c_this_sizes : Nat → Int32} {c_this_items : Nat → Int32} {post : Int32 → (Int32 × (Nat → Int32)) → Prop} (C : RefSh σ c_this_isThere c_this_forms c_this_sizes c_this_items f_this_finding) (h : ∀ fi ci, RefSh (opPut σ x1 x2 x3 x4).2 c_this_isThere c_this_forms c_this_sizes ci fi → post (opPut σ x1 x2 x3 x4).1 (fi, ci)) : wp_X4_put x1 x2 x3 x4 f_this_finding c_this_isThere c_this_forms c_this_sizes c_this_items post := by
  obtain ⟨f0, c0⟩ := id C
  unfold wp_X4_put
  unfold opPut at h
  by_cases c1 : ((0 : Int32) ≤ x1 ∧ x1 ≤ 3)
  · refine r_shT c1 (no1 one0 ?_)
    by_cases c2 : ((0 : Int32) ≤ x2 ∧ x2 ≤ 2)
    · refine r_inT c2 (no2 one0 ?_)
      simp only [if_pos (And.intro c1 c2)] at h
      obtain ⟨j, hj, e⟩ := (q_rng (n := 3) (by decide)).mp c1
      subst e
      obtain ⟨f, hf, e⟩ := (q_rng (n := 2) (by decide)).mp c2
      subst e
      rw [nI_clamp (n := j) (by omega), nI_clamp (by omega)] at h
      refine r_lacks C (by omega) hf ?_
      have hl := flt_le σ j f x3
      have q0 : (nI (flt σ j f x3) ≤ 0) ↔ flt σ j f x3 ≤ 0 := nI_leI (b := 0) (by omega) (by omega)
      rw [q0]
      by_cases c : flt σ j f x3 = 0
      · simp only [if_pos c] at h
        obtain ⟨b1, b2, b3, b4, b5, b6⟩ := c0 j (by omega)
        obtain ⟨i, i1, i2, e⟩ := flt_0 b6 c
        subst e
        rw [nI_clamp (by omega)] at h
        refine yes1 (by omega) (r_keep (by omega) b5 b1 i1 (h _ _ (ref_it C (by omega) (fun k hk => ?_) (fun k _ ho => ?_))))
        · by_cases e : k = i
          · subst e; rw [pk_us, pk_us]
          · rw [pk_un (by omega), pk_un e]; exact b4 k hk
        · rw [pk_un (by omega)]
      · simp only [if_neg c] at h
        exact no1 (by omega) (h _ _ ⟨rfl, c0⟩)
    · simp only [if_neg (fun q : _ ∧ _ => c2 q.2)] at h
      exact r_inF c2 (yes2 rfl (h _ _ C))
  · simp only [if_neg (fun q : _ ∧ _ => c1 q.1)] at h
    exact r_shF c1 (yes1 rfl (h _ _ C))
theorem s_get {σ : Sh} {x1 : Int32} {x2 : Int32} {x3 : Int32} {f_this_latestFinding : Int32} {g_form : Nat → Int32} {g_size : Nat → Int32} {g_lost : Nat → Int32} {g_items : Nat → Nat → Int32} {post : Int32 → Int32 → Prop} (C : ClsSh σ g_form g_size g_lost g_items f_this_latestFinding) (h : ∀ fi, ClsSh (opGet σ x1 x2 x3).2 g_form g_size g_lost g_items fi → post (opGet σ x1 x2 x3).1 fi) : wp_X3_get x1 x2 x3 f_this_latestFinding g_form g_size g_lost g_items post := by
  obtain ⟨f0, c0⟩ := id C
  unfold wp_X3_get
  unfold opGet at h
  by_cases c1 : ((0 : Int32) ≤ x1 ∧ x1 ≤ 3)
  · refine s_shT c1 (no1 one0 ?_)
    by_cases c2 : ((0 : Int32) ≤ x2 ∧ x2 ≤ 2)
    · refine s_formT c2 (no2 one0 ?_)
      simp only [if_pos (And.intro c1 c2)] at h
      obtain ⟨j, hj, e⟩ := (q_rng (n := 3) (by decide)).mp c1
      subst e
      obtain ⟨f, hf, e⟩ := (q_rng (n := 2) (by decide)).mp c2
      subst e
      rw [nI_clamp (n := j) (by omega), nI_clamp (by omega)] at h
      refine ⟨vp_in_nI (by omega) (by omega), ?_⟩
      rw [nI_clamp (by omega)]
      refine s_fault C (by omega) hf ?_
      have hl := flt_le σ j f x3
      have q0 : (nI (flt σ j f x3) = 0) ↔ flt σ j f x3 = 0 := nI_eq (b := 0) (by omega) (by omega)
      rw [q0]
      by_cases c : flt σ j f x3 = 0
      · simp only [if_pos c] at h
        obtain ⟨b1, b2, b3, b4, b5, b6⟩ := c0 j (by omega)
        obtain ⟨i, i1, i2, e⟩ := flt_0 b6 c
        subst e
        rw [nI_clamp (by omega)] at h
        refine yes1 c ⟨vp_in_nI (by omega) (by omega), vp_in_nI (by omega) (by omega), ?_⟩
        rw [nI_clamp (by omega), b4 i i1]
        exact h _ C
      · simp only [if_neg c] at h
        exact no1 c (h _ ⟨rfl, c0⟩)
    · simp only [if_neg (fun q : _ ∧ _ => c2 q.2)] at h
      exact s_formF c2 (yes2 rfl (h _ C))
  · simp only [if_neg (fun q : _ ∧ _ => c1 q.1)] at h
    exact s_shF c1 (yes1 rfl (h _ C))
theorem r_get {σ : Sh} {x1 : Int32} {x2 : Int32} {x3 : Int32} {f_this_finding : Int32} {c_this_isThere : Nat → Int32} {c_this_forms : Nat → Int32} {c_this_sizes : Nat → Int32} {c_this_items : Nat → Int32} {post : Int32 → Int32 → Prop} (C : RefSh σ c_this_isThere c_this_forms c_this_sizes c_this_items f_this_finding) (h : ∀ fi, RefSh (opGet σ x1 x2 x3).2 c_this_isThere c_this_forms c_this_sizes c_this_items fi → post (opGet σ x1 x2 x3).1 fi) : wp_X4_get x1 x2 x3 f_this_finding c_this_isThere c_this_forms c_this_sizes c_this_items post := by
  obtain ⟨f0, c0⟩ := id C
  unfold wp_X4_get
  unfold opGet at h
  by_cases c1 : ((0 : Int32) ≤ x1 ∧ x1 ≤ 3)
  · refine r_shT c1 (no1 one0 ?_)
    by_cases c2 : ((0 : Int32) ≤ x2 ∧ x2 ≤ 2)
    · refine r_inT c2 (no2 one0 ?_)
      simp only [if_pos (And.intro c1 c2)] at h
      obtain ⟨j, hj, e⟩ := (q_rng (n := 3) (by decide)).mp c1
      subst e
      obtain ⟨f, hf, e⟩ := (q_rng (n := 2) (by decide)).mp c2
      subst e
      rw [nI_clamp (n := j) (by omega), nI_clamp (by omega)] at h
      refine r_lacks C (by omega) hf ?_
      have hl := flt_le σ j f x3
      have q0 : (nI (flt σ j f x3) ≤ 0) ↔ flt σ j f x3 ≤ 0 := nI_leI (b := 0) (by omega) (by omega)
      rw [q0]
      by_cases c : flt σ j f x3 = 0
      · simp only [if_pos c] at h
        obtain ⟨b1, b2, b3, b4, b5, b6⟩ := c0 j (by omega)
        obtain ⟨i, i1, i2, e⟩ := flt_0 b6 c
        subst e
        rw [nI_clamp (by omega)] at h
        refine yes1 (by omega) ?_
        rw [forall_eq, forall_eq, show (60 : Int32) = nI 60 from rfl, pk_mul, nI_add]
        refine ⟨vp_in_nI (by omega) (by omega), ?_⟩
        rw [nI_clamp (by omega), b4 i i1]
        exact h _ C
      · simp only [if_neg c] at h
        exact no1 (by omega) (h _ ⟨rfl, c0⟩)
    · simp only [if_neg (fun q : _ ∧ _ => c2 q.2)] at h
      exact r_inF c2 (yes2 rfl (h _ C))
  · simp only [if_neg (fun q : _ ∧ _ => c1 q.1)] at h
    exact r_shF c1 (yes1 rfl (h _ C))
