/-! counting bits -/
def pcn (a : Nat) : Nat := fb_ct (fun k => a.testBit k) 12
theorem pcn_le (a : Nat) : pcn a ≤ 12 := fb_ct_le _ _
def bcI (x0 : Int32) : Int32 :=
  let v1 := (x0.toUInt32 >>> ((1 : Int32).toUInt32 &&& Int32.toUInt32 31)).toInt32
  let v3 := x0 - (v1 &&& (1431655765 : Int32))
  let v5 := v3 &&& (858993459 : Int32)
  let v7 := (v3.toUInt32 >>> ((2 : Int32).toUInt32 &&& Int32.toUInt32 31)).toInt32
  let v9 := v5 + (v7 &&& (858993459 : Int32))
  let v11 := v9 + ((v9.toUInt32 >>> ((4 : Int32).toUInt32 &&& Int32.toUInt32 31)).toInt32)
  let v13 := v11 &&& (252645135 : Int32)
  let v15 := v13 + ((v13.toUInt32 >>> ((8 : Int32).toUInt32 &&& Int32.toUInt32 31)).toInt32)
  let v17 := v15 + ((v15.toUInt32 >>> ((16 : Int32).toUInt32 &&& Int32.toUInt32 31)).toInt32)
  v17 &&& (63 : Int32)
theorem bc_all2 : ∀ h, h < 64 → ∀ l, l < 64 → bcI (nI (64 * h + l)) = nI (pcn (64 * h + l)) := by decide +kernel
theorem bc_all (a : Nat) (ha : a < 4096) : bcI (nI a) = nI (pcn a) := by
  have := bc_all2 (a / 64) (by omega) (a % 64) (by omega)
  rw [show 64 * (a / 64) + a % 64 = a by omega] at this
  exact this
theorem s_bitCount {a : Nat} (ha : a < 4096) {post : Int32 → Unit → Prop} (h : post (nI (pcn a)) ()) : wp_J6_bitCount_0f7a4 (nI a) post := by
  unfold wp_J6_bitCount_0f7a4
  intro v1 e1 v3 e3 v5 e5 v7 e7 v9 e9 v11 e11 v13 e13 v15 e15 v17 e17
  have : v17 &&& (63 : Int32) = bcI (nI a) := by
    subst e1; subst e3; subst e5; subst e7; subst e9; subst e11; subst e13; subst e15; subst e17
    rfl
  rw [this, bc_all a ha]
  exact h
theorem r_many {a : Nat} (ha : a < 2 ^ 31) {post : Int32 → Unit → Prop} (h : post (nI (pcn a)) ()) : wp_X4_many (nI a) post := by
  unfold wp_X4_many
  have key : ∀ (m k : Nat), k ≤ 12 → 12 - k < m → wq_X4_many_4 (nI a) post (fun e13 => post e13 ()) m (nI (fb_ct (fun k => a.testBit k) k)) (nI k) := by
    intro m
    induction m with
    | zero => intro k g1 g2; omega
    | succ m ih =>
      intro k g1 g2
      unfold wq_X4_many_4
      simp (disch := omega) only [fa_lit, nI_leI]
      refine ⟨fun c => ?_, fun c => ?_⟩
      · have e : k = 12 := by omega
        subst e; exact h
      · have st := ih (k + 1) (by omega) (by omega)
        rw [fb_ct_succ] at st
        refine r_isIn ha (by omega) ?_
        rw [show (nI 0 : Int32) = 0 from rfl, b01_0]
        refine ⟨fun c1 => ?_, fun c1 => ?_⟩
        · rw [if_neg (by rw [c1]; decide)] at st
          rw [forall_eq, forall_eq]
          rw [show (0 : Int32) = nI 0 from rfl, nI_add, nI_add]
          exact st
        · rw [if_pos (by cases e : a.testBit k with | false => exact absurd e c1 | true => rfl)] at st
          rw [forall_eq, forall_eq, nI_add, nI_add]
          exact st
  exact ⟨13, key 13 0 (by omega) (by omega)⟩
theorem pcn_set {a x : Nat} (hx : x < 12) (h : a.testBit x = false) : pcn (a ||| 2 ^ x) = pcn a + 1 := by
  have e : (fun k => (a ||| 2 ^ x).testBit k) = fun k => if k = x then true else a.testBit k := by
    funext k
    rw [tb_or]
    by_cases c : k = x
    · rw [if_pos c, decide_eq_true c, Bool.or_true]
    · rw [if_neg c, decide_eq_false c, Bool.or_false]
  have h1 := fb_ct_upd (fun k => a.testBit k) true (i := x) (n := 12) hx
  have e0 : (if a.testBit x = true then 1 else 0) = 0 := by rw [h]; rfl
  have h2 : fb_ct (fun k => if k = x then true else a.testBit k) 12 + (if a.testBit x = true then 1 else 0) = fb_ct (fun k => a.testBit k) 12 + 1 := h1
  rw [e0] at h2
  unfold pcn
  rw [e]
  omega
theorem pcn_0 : pcn 0 = 0 := by decide
/-- the columns of a line -/
theorem ordk_mem {s : Nat → Nat} {al : Nat → Nat → Bool} {d y n k x : Nat} : x ∈ ordk s al d y n k ↔ x < k ∧ d.testBit x = true ∧ cm s al y x = n := by
  unfold ordk
  rw [List.mem_filter, List.mem_range, Bool.and_eq_true, decide_eq_true_eq]
theorem ordp_mem {s : Nat → Nat} {al : Nat → Nat → Bool} {d y N x : Nat} : x ∈ ordp s al d y N ↔ x < 8 ∧ d.testBit x = true ∧ cm s al y x < N := by
  unfold ordp
  rw [List.mem_flatMap]
  constructor
  · rintro ⟨n, hn, hx⟩
    rw [List.mem_range] at hn
    rw [ordk_mem] at hx
    exact ⟨hx.1, hx.2.1, by omega⟩
  · rintro ⟨h1, h2, h3⟩
    exact ⟨_, List.mem_range.mpr h3, ordk_mem.mpr ⟨h1, h2, rfl⟩⟩
theorem ordp_pw (s : Nat → Nat) (al : Nat → Nat → Bool) (d y N : Nat) : (ordp s al d y N).Pairwise (fun a b => a ≠ b ∧ cm s al y a ≤ cm s al y b) := by
  unfold ordp
  rw [List.pairwise_flatMap]
  refine ⟨fun n _ => ?_, List.pairwise_lt_range.imp (fun {a b} h x hx z hz => ?_)⟩
  · unfold ordk
    refine List.Pairwise.imp_of_mem (fun {a b} ha hb h => ?_) (List.pairwise_lt_range.filter _)
    have g1 := (List.mem_filter.mp ha).2
    have g2 := (List.mem_filter.mp hb).2
    simp only [Bool.and_eq_true, decide_eq_true_eq] at g1 g2
    exact ⟨Nat.ne_of_lt h, by omega⟩
  · rw [ordk_mem] at hx hz
    refine ⟨fun e => ?_, by omega⟩
    subst e; omega
theorem ordp_nd (s : Nat → Nat) (al : Nat → Nat → Bool) (d y N : Nat) : (ordp s al d y N).Nodup := (ordp_pw s al d y N).imp (fun h => h.1)
/-- a fold keeps what each step keeps -/
theorem fold_pre {σ : Type} {f : σ → Nat → σ} {I : List Nat → σ → Prop} {xs : List Nat} {t : σ} (h0 : I [] t) (hstep : ∀ (done : List Nat) (x : Nat) (rest : List Nat) (u : σ), xs = done ++ x :: rest → I done u → I (done ++ [x]) (f u x)) : I xs (xs.foldl f t) := by
  have key : ∀ (rest done : List Nat) (u : σ), xs = done ++ rest → I done u → I xs (rest.foldl f u) := by
    intro rest
    induction rest with
    | nil => intro done u h hI; rw [List.append_nil] at h; subst h; exact hI
    | cons x rest ih =>
      intro done u h hI
      refine ih (done ++ [x]) (f u x) (by rw [h]; simp) (hstep done x rest u h hI)
  exact key xs [] t rfl h0
/-- the fold's numbers -/
theorem pf_nums (s : Nat → Nat) (al : Nat → Nat → Bool) (y : Nat) : ∀ (xs : List Nat), xs.Nodup → (∀ x ∈ xs, x < 8) → (pf s al y xs).2.2.1 < 256 ∧ pcn (pf s al y xs).2.2.1 = (pf s al y xs).2.2.2.1 ∧ (∀ k, (pf s al y xs).2.2.1.testBit k = true → k ∈ xs) ∧ (pf s al y xs).2.2.2.1 + (pf s al y xs).2.2.2.2.1 + (pf s al y xs).2.2.2.2.2 = xs.length := by
  intro xs hnd h8
  refine fold_pre (f := stp s al y) (I := fun done t => t.2.2.1 < 256 ∧ pcn t.2.2.1 = t.2.2.2.1 ∧ (∀ k, t.2.2.1.testBit k = true → k ∈ done) ∧ t.2.2.2.1 + t.2.2.2.2.1 + t.2.2.2.2.2 = done.length) ?_ ?_
  · refine ⟨by decide, by decide, fun k h => ?_, rfl⟩
    have h : Nat.testBit 0 k = true := h
    rw [Nat.zero_testBit] at h
    exact absurd h (by decide)
  · intro done x rest t hxs hI
    obtain ⟨i1, i2, i3, i4⟩ := hI
    have hx8 := h8 x (by rw [hxs]; simp)
    have hxn : x ∉ done := by
      rw [hxs, List.nodup_append] at hnd
      exact fun hm => hnd.2.2 x hm x List.mem_cons_self rfl
    rw [List.length_append]
    show _ ∧ _ ∧ _ ∧ _ = done.length + 1
    cases hf : fst1 s al y x t.1 with
    | none =>
      rw [stp_none hf]
      refine ⟨Nat.or_lt_two_pow (n := 8) i1 (Nat.pow_lt_pow_right (by decide) hx8), ?_, fun k hk => ?_, ?_⟩
      · show pcn (_ ||| 2 ^ x) = _ + 1
        rw [pcn_set (by omega) (by cases e : t.2.2.1.testBit x with | false => rfl | true => exact absurd (i3 x e) hxn), i2]
      · have hk : (t.2.2.1 ||| 2 ^ x).testBit k = true := hk
        rw [tb_or, Bool.or_eq_true, decide_eq_true_eq] at hk
        rcases hk with hk | hk
        · exact List.mem_append_left _ (i3 k hk)
        · rw [hk]; exact List.mem_append_right _ List.mem_cons_self
      · show t.2.2.2.1 + 1 + t.2.2.2.2.1 + t.2.2.2.2.2 = done.length + 1
        omega
    | some i =>
      rw [stp_some hf]
      refine ⟨i1, i2, fun k hk => List.mem_append_left _ (i3 k hk), ?_⟩
      show t.2.2.2.1 + (if i = wn s y x then t.2.2.2.2.1 else t.2.2.2.2.1 + 1) + (if i = wn s y x then t.2.2.2.2.2 + 1 else t.2.2.2.2.2) = done.length + 1
      by_cases c : i = wn s y x
      · rw [if_pos c, if_pos c]; omega
      · rw [if_neg c, if_neg c]; omega
theorem fin_nums (s : Nat → Nat) (al : Nat → Nat → Bool) (d y : Nat) : (fin s al d y).2.2.1 < 256 ∧ pcn (fin s al d y).2.2.1 = (fin s al d y).2.2.2.1 ∧ (fin s al d y).2.2.2.1 + (fin s al d y).2.2.2.2.1 + (fin s al d y).2.2.2.2.2 = (ordp s al d y 13).length := by
  obtain ⟨h1, h2, -, h4⟩ := pf_nums s al y (ordp s al d y 13) (ordp_nd s al d y 13) (fun x hx => (ordp_mem.mp hx).1)
  exact ⟨h1, h2, h4⟩
/-- counting a list of columns without a double -/
theorem cnt_list (P : Nat → Bool) : ∀ (n : Nat) (xs : List Nat), xs.Nodup → (∀ x, x ∈ xs ↔ x < n ∧ P x = true) → xs.length = fb_ct P n := by
  intro n
  induction n with
  | zero =>
    intro xs _ h
    cases xs with
    | nil => rfl
    | cons x xs => have := (h x).mp List.mem_cons_self; omega
  | succ n ih =>
    intro xs hnd h
    rw [fb_ct_succ]
    by_cases c : P n = true
    · rw [if_pos c]
      have hm : n ∈ xs := (h n).mpr ⟨by omega, c⟩
      have hp := List.perm_cons_erase hm
      have h2 : (xs.erase n).length = fb_ct P n := by
        refine ih _ (hnd.erase n) (fun x => ?_)
        rw [hnd.mem_erase_iff, h x]
        constructor
        · rintro ⟨h1, h2⟩; exact ⟨by omega, h2.2⟩
        · rintro ⟨h1, h2⟩; exact ⟨by omega, by omega, h2⟩
      rw [hp.length_eq, List.length_cons, h2]
    · rw [if_neg c]
      refine ih xs hnd (fun x => ?_)
      rw [h x]
      constructor
      · rintro ⟨h1, h2⟩
        refine ⟨?_, h2⟩
        by_cases e : x = n
        · subst e; exact absurd h2 c
        · omega
      · rintro ⟨h1, h2⟩; exact ⟨by omega, h2⟩
theorem ct8_12 {d : Nat} (hd : d < 256) (P : Nat → Bool) : fb_ct (fun k => d.testBit k && P k) 8 = fb_ct (fun k => d.testBit k && P k) 12 := by
  have h : ∀ k, 8 ≤ k → d.testBit k = false := fun k hk => Nat.testBit_lt_two_pow (Nat.lt_of_lt_of_le (show d < 2 ^ 8 from hd) (Nat.pow_le_pow_right (by decide) hk))
  rw [fb_ct_succ _ 11, fb_ct_succ _ 10, fb_ct_succ _ 9, fb_ct_succ _ 8, h 11 (by omega), h 10 (by omega), h 9 (by omega), h 8 (by omega)]
  simp
theorem ord_len {s : Nat → Nat} (H : Hok s) (al : Nat → Nat → Bool) {d : Nat} (hd : d < 256) (y : Nat) : (ordp s al d y 13).length = pcn d := by
  rw [cnt_list (fun k => d.testBit k && true) 8 _ (ordp_nd s al d y 13) (fun x => ?_), ct8_12 hd]
  · unfold pcn; congr 1; funext k; simp
  · rw [ordp_mem]
    have := cm_le s al y x
    have := hs_len12 H y
    simp
    omega
