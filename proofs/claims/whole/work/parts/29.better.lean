/-! better -/
def bix (b : Nat) : Nat := if b = 0 then 2 else if b = 1 then 8 else 4
def bN (b : Nat) : Nat := if b = 0 then 12 else if b = 1 then 4 else 21
def blo (b : Nat) : Int32 := if b = 0 then 1 else if b = 1 then 0 else -20
def bhi (b : Nat) : Int32 := if b = 0 then 12 else if b = 1 then 3 else 0
def bvN (b i : Nat) : Nat := if b = 0 then i + 1 else if b = 1 then i else 20 - i
def bvl (b i : Nat) : Int32 := nI i + blo b
def sB (s : Nat → Nat) (b i : Nat) : Nat → Nat := va_up s (bix b) (bvN b i)
theorem bvl_s (b i : Nat) : bvl b i + 1 = bvl b (i + 1) := by
  unfold bvl
  rw [← nI_1, Int32.add_assoc, Int32.add_comm (blo b) 1, ← Int32.add_assoc]
theorem bvl_hi : ∀ b, b < 3 → ∀ i, i < 22 → i ≤ bN b → (bhi b < bvl b i ↔ bN b ≤ i) := by decide +kernel
theorem bvl_hv : ∀ b, b < 3 → ∀ i, i < 21 → i < bN b → bvl b i = (if bix b = 4 then -nI (bvN b i) else nI (bvN b i)) := by decide +kernel
theorem bvl_min : ∀ b, b < 3 → ∀ i, i < 22 → ¬ bvl b i = (-2147483648 : Int32) := by decide +kernel
theorem bN_le : ∀ b, b < 3 → 1 ≤ bN b ∧ bN b ≤ 21 ∧ bix b < 9 := by decide
theorem sB_ok {s : Nat → Nat} (H : Hok s) {b i : Nat} (hb : b < 3) (hi : i < bN b) : Hok (sB s b i) := by
  obtain ⟨a0, a1, a2, a3, a4, a5, a6, a7, a8⟩ := H
  have up : ∀ k v j, va_up s k v j = if j = k then v else s j := fun k v j => by
    by_cases c : j = k
    · subst c; rw [va_up_self, if_pos rfl]
    · rw [va_up_ne _ _ c, if_neg c]
  unfold sB Hok
  simp only [up]
  have : b = 0 ∨ b = 1 ∨ b = 2 := by omega
  rcases this with h | h | h <;> subst h <;> simp [bix, bvN, bN] at hi ⊢ <;> omega
theorem sB_hd {s : Nat → Nat} (H : Hok s) {b i : Nat} (hb : b < 3) (hi : i < bN b) {head : Nat → Int32} (hh : ∀ k, k < 9 → k ≠ bix b → head k = hv s k) : Hd (sB s b i) (upd head (bix b) (bvl b i)) := by
  refine ⟨sB_ok H hb hi, fun k hk => ?_⟩
  have hN := bN_le b hb
  by_cases e : k = bix b
  · subst e
    rw [pk_us, bvl_hv b hb i (by omega) hi, hv]
    unfold sB
    rw [va_up_self]
    by_cases c : bix b = 4
    · rw [if_pos c, if_pos c]
      rw [c, va_up_self]
    · rw [if_neg c, if_neg c]
  · rw [pk_un e, hh k hk e]
    unfold hv sB
    by_cases c : k = 4
    · subst c; rw [if_pos rfl, if_pos rfl, va_up_ne _ _ e]
    · rw [if_neg c, if_neg c, va_up_ne _ _ e]
def btr (M S : Nat → Nat) (i j : Nat) : Bool := decide (M i < M j ∨ (M i = M j ∧ S i < S j))
def bi (M S : Nat → Nat) : Nat → Nat
  | 0 => 0
  | k + 1 => if k = 0 then 0 else if btr M S k (bi M S k) = true then k else bi M S k
def mB (s : Nat → Nat) (al : Nat → Nat → Bool) (d : Nat → Nat) (b : Nat) (i : Nat) : Nat := sMiss (sB s b i) al d
def tB (s : Nat → Nat) (al : Nat → Nat → Bool) (d : Nat → Nat) (b : Nat) (i : Nat) : Nat := sStray (sB s b i) al d
def bB (s : Nat → Nat) (al : Nat → Nat → Bool) (d : Nat → Nat) (b k : Nat) : Nat := bi (mB s al d b) (tB s al d b) k
def aBet (s : Nat → Nat) (al : Nat → Nat → Bool) (d : Nat → Nat) (b w : Nat) : Int32 := if w = 0 then bvl b (bB s al d b (bN b)) else nI (mB s al d b (bB s al d b (bN b)))
theorem tot_sum {s : Nat → Nat} (H : Hok s) (al : Nat → Nat → Bool) {d : Nat → Nat} (hd : ∀ y, y < 16 → d y < 256) : sMiss s al d + sStray s al d + sWant s al d = sDots d := by
  unfold sMiss sStray sWant sDots
  rw [← fb_sm_add, ← fb_sm_add]
  refine fb_sm_cong (fun k hk => ?_)
  rw [(fin_nums s al (d k) k).2.2, ord_len H al (hd k hk)]
theorem tot_le (d : Nat → Nat) : sDots d ≤ 16 * 12 := fb_sm_bound (fun k _ => pcn_le _)
theorem bi_lt (M S : Nat → Nat) : ∀ k, 0 < k → bi M S k < k := by
  intro k
  induction k with
  | zero => intro h; omega
  | succ k ih =>
    intro _
    unfold bi
    by_cases c : k = 0
    · rw [if_pos c]; omega
    · rw [if_neg c]
      by_cases c2 : btr M S k (bi M S k) = true
      · rw [if_pos c2]; omega
      · rw [if_neg c2]; have := ih (by omega); omega
/-- a copy of a whole row -/
theorem cpy_at (f g : Nat → Int32) {N k : Nat} (h : k < N) : va_cpy f g 0 0 N k = f k := by
  unfold va_cpy
  rw [if_pos (by omega)]
  congr 1
  omega
theorem s_takeInputs {s d : Nat → Nat} {al : Nat → Nat → Bool} {c_this_picture : Nat → Int32} {c_this_head : Nat → Int32} {c_this_living : Nat → Int32} {c_a1_picture : Nat → Int32} {c_a1_head : Nat → Int32} {c_a1_living : Nat → Int32} {post : ((Nat → Int32) × (Nat → Int32) × (Nat → Int32)) → Prop} (hh : Hd s c_a1_head) (hp : PicOk d c_a1_picture) (hL : LivOk al c_a1_living) (h : ∀ p hd' l, PicOk d p → Hd s hd' → LivOk al l → post (p, hd', l)) : wp_X1_takeInputs c_this_picture c_this_head c_this_living c_a1_picture c_a1_head c_a1_living post := by
  unfold wp_X1_takeInputs
  have z0 : (0 : Int32).toNatClampNeg = 0 := rfl
  have z16 : (16 : Int32).toNatClampNeg = 16 := rfl
  have z9 : (9 : Int32).toNatClampNeg = 9 := rfl
  have z8 : (8 : Int32).toNatClampNeg = 8 := rfl
  rw [z0, z16, z9, z8]
  refine ⟨by decide, by decide, by decide, by decide, by decide, by decide, by decide, by decide, by decide, by decide, by decide, by decide, by decide, by decide, by decide, h _ _ _ ?_ ?_ ?_⟩
  · intro y hy; rw [cpy_at _ _ hy]; exact hp y hy
  · exact ⟨hh.1, fun k hk => by rw [cpy_at _ _ hk]; exact hh.2 k hk⟩
  · intro j hj; rw [cpy_at _ _ hj]; exact hL j hj
theorem jt_b : ∀ b, b < 3 → jtH (bix b) = bhi b ∧ jtL (bix b) = blo b ∧ jtB b = nI (bix b) := by decide +kernel
theorem mB_le {s : Nat → Nat} (H : Hok s) (al : Nat → Nat → Bool) {d : Nat → Nat} (hd : ∀ y, y < 16 → d y < 256) {b i : Nat} (hb : b < 3) (hi : i < bN b) : mB s al d b i + tB s al d b i + sWant (sB s b i) al d = sDots d ∧ sDots d ≤ 192 := ⟨tot_sum (sB_ok H hb hi) al hd, tot_le d⟩
theorem bB_s (s : Nat → Nat) (al : Nat → Nat → Bool) (d : Nat → Nat) (b k : Nat) : bB s al d b (k + 1) = if k = 0 then 0 else if btr (mB s al d b) (tB s al d b) k (bB s al d b k) = true then k else bB s al d b k := rfl
theorem s_better_loop {s d : Nat → Nat} {al : Nat → Nat → Bool} {b : Nat} {c_this_told_picture : Nat → Int32} {c_this_told_head : Nat → Int32} {c_this_told_living : Nat → Int32} {x2 : Int32} {c_this_trial_picture : Nat → Int32} {c_this_trial_living : Nat → Int32} {post : Int32 → (Int32 × (Nat → Int32) × (Nat → Int32) × (Nat → Int32) × (Nat → Int32) × (Nat → Int32) × (Nat → Int32) × (Nat → Int32) × (Nat → Int32) × (Nat → Int32) × (Nat → Int32) × (Nat → Int32) × (Nat → Int32) × (Nat → Int32)) → Prop} {Ke_147 : Int32 → Int32 → (Int32) → (Nat → Int32) → (Nat → Int32) → (Nat → Int32) → (Nat → Int32) → (Nat → Int32) → (Nat → Int32) → (Nat → Int32) → (Nat → Int32) → (Nat → Int32) → (Nat → Int32) → (Nat → Int32) → Prop} (H : Hok s) (hb : b < 3) (hp : PicOk d c_this_trial_picture) (hL : LivOk al c_this_trial_living) (hK : ∀ (u1 : Int32) (u2 u3 u4 u5 u6 u7 u8 u9 u10 u11 u12 : Nat → Int32), Ke_147 (bvl b (bB s al d b (bN b))) (nI (mB s al d b (bB s al d b (bN b)))) u1 u2 u3 u4 u5 u6 u7 u8 u9 u10 u11 u12) : ∀ (m k : Nat) (x4 x5 x6 : Int32) (u1 : Int32) (u2 u3 u4 u5 u6 u7 u8 u9 u10 u11 u12 : Nat → Int32), k ≤ bN b → bN b - k < m → (∀ i, i < 9 → i ≠ bix b → u2 i = hv s i) → (k = 0 → x5 = 2147483647) → (0 < k → x4 = bvl b (bB s al d b k) ∧ x5 = nI (mB s al d b (bB s al d b k)) ∧ x6 = nI (tB s al d b (bB s al d b k))) → wq_X3_better_61 c_this_told_picture c_this_told_head c_this_told_living x2 (nI (bix b)) c_this_trial_picture c_this_trial_living post Ke_147 m x4 x5 x6 (bvl b k) u1 u2 u3 u4 u5 u6 u7 u8 u9 u10 u11 u12 := by
  obtain ⟨hN1, hN2, hN3⟩ := bN_le b hb
  obtain ⟨j1, j2, j3⟩ := jt_b b hb
  have hd : ∀ y, y < 16 → d y < 256 := fun y hy => (hp y hy).2
  intro m
  induction m with
  | zero => intro k x4 x5 x6 u1 u2 u3 u4 u5 u6 u7 u8 u9 u10 u11 u12 g1 g2; omega
  | succ m ih =>
    intro k x4 x5 x6 u1 u2 u3 u4 u5 u6 u7 u8 u9 u10 u11 u12 g1 g2 hhd h0 h1
    unfold wq_X3_better_61
    refine ⟨vp_in_nI hN3 (by omega), ?_⟩
    rw [nI_clamp (by omega), j1, bvl_hi b hb k (by omega) g1]
    refine ⟨fun q => ?_, fun q => ?_⟩
    · have e : k = bN b := by omega
      obtain ⟨e1, e2, e3⟩ := h1 (by omega)
      rw [e1, e2, e]
      exact hK _ _ _ _ _ _ _ _ _ _ _ _
    · refine ⟨vp_in_nI hN3 (by omega), ?_⟩
      have hhd' := sB_hd H hb (i := k) (by omega) hhd
      refine s_print hhd' hL hp (fun str hc hp' ph md fp lp dp gt cc cn hP => ?_)
      refine s_allMissed (s := sB s b k) (al := al) (d := d) hP.2.1.2.2.1 ?_
      dsimp only
      have es : str = nI (tB s al d b k) := by rw [hP.2.1.1, sm16_stk]; rfl
      rw [es]
      have em : sMiss (sB s b k) al d = mB s al d b k := rfl
      rw [em]
      obtain ⟨t1, t2⟩ := mB_le H al hd hb (i := k) (by omega)
      have hup : ∀ i, i < 9 → i ≠ bix b → upd u2 (bix b) (bvl b k) i = hv s i := fun i h9 hi => by rw [pk_un hi]; exact hhd i h9 hi
      simp only [forall_eq]
      rw [bvl_s]
      by_cases k0 : k = 0
      · have st := ih (k + 1) (bvl b k) (nI (mB s al d b k)) (nI (tB s al d b k)) (nI (tB s al d b k)) (upd u2 (bix b) (bvl b k)) hc hp' ph md fp lp dp gt cc cn (by omega) (by omega) hup (fun q => by omega) (fun _ => by
          rw [bB_s, if_pos k0, k0]; exact ⟨rfl, rfl, rfl⟩)
        refine yes1 ?_ st
        rw [h0 k0]
        exact (nI_ltI (b := 2147483647) (by omega) (by omega)).mpr (by omega)
      · obtain ⟨e1, e2, e3⟩ := h1 (by omega)
        have hl := bi_lt (mB s al d b) (tB s al d b) k (by omega)
        obtain ⟨t3, t4⟩ := mB_le H al hd hb (i := bB s al d b k) (Nat.lt_trans hl (by omega))
        rw [e2, e3, e1, nI_ltI (by omega) (by omega), nI_eq (by omega) (by omega), nI_leI (by omega) (by omega)]
        have yes : btr (mB s al d b) (tB s al d b) k (bB s al d b k) = true → wq_X3_better_61 c_this_told_picture c_this_told_head c_this_told_living x2 (nI (bix b)) c_this_trial_picture c_this_trial_living post Ke_147 m (bvl b k) (nI (mB s al d b k)) (nI (tB s al d b k)) (bvl b (k + 1)) (nI (tB s al d b k)) (upd u2 (bix b) (bvl b k)) hc hp' ph md fp lp dp gt cc cn := fun c => ih (k + 1) (bvl b k) (nI (mB s al d b k)) (nI (tB s al d b k)) (nI (tB s al d b k)) _ _ _ _ _ _ _ _ _ _ _ (by omega) (by omega) hup (fun q => by omega) (fun _ => by
          rw [bB_s, if_neg k0, if_pos c]; exact ⟨rfl, rfl, rfl⟩)
        have no : ¬ btr (mB s al d b) (tB s al d b) k (bB s al d b k) = true → wq_X3_better_61 c_this_told_picture c_this_told_head c_this_told_living x2 (nI (bix b)) c_this_trial_picture c_this_trial_living post Ke_147 m (bvl b (bB s al d b k)) (nI (mB s al d b (bB s al d b k))) (nI (tB s al d b (bB s al d b k))) (bvl b (k + 1)) (nI (tB s al d b k)) (upd u2 (bix b) (bvl b k)) hc hp' ph md fp lp dp gt cc cn := fun c => ih (k + 1) (bvl b (bB s al d b k)) (nI (mB s al d b (bB s al d b k))) (nI (tB s al d b (bB s al d b k))) (nI (tB s al d b k)) _ _ _ _ _ _ _ _ _ _ _ (by omega) (by omega) hup (fun q => by omega) (fun _ => by
          rw [bB_s, if_neg k0, if_neg c]; exact ⟨rfl, rfl, rfl⟩)
        unfold btr at yes no
        rw [decide_eq_true_eq] at yes no
        refine ⟨fun c => yes (Or.inl c), fun c => ⟨fun c2 => no (by omega), fun c2 => ⟨fun c3 => no (by omega), fun c3 => yes (by omega)⟩⟩⟩
def aBetter (s : Nat → Nat) (al : Nat → Nat → Bool) (d : Nat → Nat) (x1 x2 : Int32) : Int32 := if ((0 : Int32) ≤ x1 ∧ x1 ≤ 2) ∧ ((0 : Int32) ≤ x2 ∧ x2 ≤ 1) then aBet s al d x1.toNatClampNeg x2.toNatClampNeg else -2147483648
theorem s_better {s d : Nat → Nat} {al : Nat → Nat → Bool} {x1 : Int32} {x2 : Int32} {c_this_told_picture : Nat → Int32} {c_this_told_head : Nat → Int32} {c_this_told_living : Nat → Int32} {f_this_trial_strayed : Int32} {c_this_trial_picture : Nat → Int32} {c_this_trial_head : Nat → Int32} {c_this_trial_living : Nat → Int32} {c_this_trial_hitCount : Nat → Int32} {c_this_trial_hitPlace : Nat → Int32} {c_this_trial_printingHit : Nat → Int32} {c_this_trial_missedDots : Nat → Int32} {c_this_trial_firstPass : Nat → Int32} {c_this_trial_lastPass : Nat → Int32} {c_this_trial_dotsPrinted : Nat → Int32} {c_this_trial_gutter : Nat → Int32} {c_this_trial_canColumns : Nat → Int32} {c_this_trial_canCount : Nat → Int32} {post : Int32 → (Int32 × (Nat → Int32) × (Nat → Int32) × (Nat → Int32) × (Nat → Int32) × (Nat → Int32) × (Nat → Int32) × (Nat → Int32) × (Nat → Int32) × (Nat → Int32) × (Nat → Int32) × (Nat → Int32) × (Nat → Int32) × (Nat → Int32)) → Prop} (hh : Hd s c_this_told_head) (hp : PicOk d c_this_told_picture) (hL : LivOk al c_this_told_living) (h : ∀ u, post (aBetter s al d x1 x2) u) : wp_X3_better x1 x2 c_this_told_picture c_this_told_head c_this_told_living f_this_trial_strayed c_this_trial_picture c_this_trial_head c_this_trial_living c_this_trial_hitCount c_this_trial_hitPlace c_this_trial_printingHit c_this_trial_missedDots c_this_trial_firstPass c_this_trial_lastPass c_this_trial_dotsPrinted c_this_trial_gutter c_this_trial_canColumns c_this_trial_canCount post := by
  have H := hh.1
  unfold wp_X3_better
  rw [forall_eq, show (3 : Int32) - 1 = 2 from rfl]
  by_cases c1 : (0 : Int32) ≤ x1 ∧ x1 ≤ 2
  · refine s_withinT c1 (no1 one0 ?_)
    by_cases c2 : (0 : Int32) ≤ x2 ∧ x2 ≤ 1
    · refine s_withinT c2 (no2 one0 ?_)
      unfold aBetter at h
      rw [if_pos ⟨c1, c2⟩] at h
      obtain ⟨b, hb, e⟩ := (q_rng (n := 2) (by decide)).mp c1
      subst e
      obtain ⟨w, hw, e⟩ := (q_rng (n := 1) (by decide)).mp c2
      subst e
      obtain ⟨hN1, hN2, hN3⟩ := bN_le b (by omega)
      obtain ⟨j1, j2, j3⟩ := jt_b b (by omega)
      rw [nI_clamp (by omega), nI_clamp (by omega)] at h
      refine ⟨vp_in_nI (by omega) (by omega), ?_⟩
      rw [forall_eq, nI_clamp (by omega), j3]
      refine s_takeInputs hh hp hL (fun p hd' l g1 g2 g3 => ⟨vp_in_nI hN3 (by omega), ?_⟩)
      rw [forall_eq, nI_clamp (by omega), j2]
      have lo : blo b = bvl b 0 := by unfold bvl; rw [show nI 0 = (0 : Int32) from rfl, Int32.zero_add]
      rw [lo]
      refine ⟨bN b + 1, s_better_loop H (by omega) g1 g3 (fun u1 u2 u3 u4 u5 u6 u7 u8 u9 u10 u11 u12 => ?_) (bN b + 1) 0 _ _ _ _ _ _ _ _ _ _ _ _ _ _ _ (by omega) (by omega) (fun i h9 _ => g2.2 i h9) (fun _ => rfl) (fun q => by omega)⟩
      unfold aBet at h
      by_cases w0 : w = 0
      · simp only [if_pos w0] at h
        exact yes2 (by rw [w0]; rfl) (h _)
      · simp only [if_neg w0] at h
        exact no2 (fun q => w0 ((nI_eq (b := 0) (by omega) (by omega)).mp q)) (h _)
    · unfold aBetter at h
      rw [if_neg (fun q => c2 q.2)] at h
      exact s_withinF c2 (yes2 rfl (h _))
  · unfold aBetter at h
    rw [if_neg (fun q => c1 q.1)] at h
    exact s_withinF c1 (yes1 rfl (h _))
theorem r_better_loop {s d : Nat → Nat} {al : Nat → Nat → Bool} {b : Nat} {f_this_events : Int32} {c_this_told : Nat → Int32} {c_this_head : Nat → Int32} {c_this_eventKind : Nat → Int32} {c_this_eventAt : Nat → Int32} {c_this_eventNozzle : Nat → Int32} {x2 : Int32} {f_this_notEvents : Int32} {f_this_deadNow : Int32} {c_this_dots : Nat → Int32} {post : Int32 → (Int32 × Int32 × Int32 × Int32 × Int32 × (Nat → Int32) × (Nat → Int32) × (Nat → Int32) × (Nat → Int32) × (Nat → Int32) × (Nat → Int32) × (Nat → Int32) × (Nat → Int32) × (Nat → Int32) × (Nat → Int32) × (Nat → Int32)) → Prop} {Ke_155 : Int32 → Int32 → (Int32) → (Int32) → (Int32) → (Nat → Int32) → (Nat → Int32) → (Nat → Int32) → (Nat → Int32) → (Nat → Int32) → (Nat → Int32) → (Nat → Int32) → (Nat → Int32) → (Nat → Int32) → (Nat → Int32) → Prop} (H : Hok s) (hb : b < 3) (hp : PicOk d c_this_dots) (hA : RAlv al f_this_events f_this_notEvents f_this_deadNow c_this_eventKind c_this_eventAt c_this_eventNozzle) (hK : ∀ (u1 u2 u3 : Int32) (v1 v2 v3 v4 v5 v6 v7 v8 v9 v10 : Nat → Int32), Ke_155 (bvl b (bB s al d b (bN b))) (nI (mB s al d b (bB s al d b (bN b)))) u1 u2 u3 v1 v2 v3 v4 v5 v6 v7 v8 v9 v10) : ∀ (m k : Nat) (x6 x7 x8 : Int32) (u1 u2 u3 : Int32) (v1 v2 v3 v4 v5 v6 v7 v8 v9 v10 : Nat → Int32), k ≤ bN b → bN b - k < m → (∀ i, i < 9 → i ≠ bix b → v1 i = hv s i) → (k = 0 → x6 = -2147483648) → (0 < k → x6 = bvl b (bB s al d b k) ∧ x7 = nI (mB s al d b (bB s al d b k)) ∧ x8 = nI (sWant (sB s b (bB s al d b k)) al d)) → wq_X4_betterOf_80 f_this_events c_this_told c_this_head c_this_eventKind c_this_eventAt c_this_eventNozzle x2 (nI (bix b)) (bhi b) f_this_notEvents f_this_deadNow c_this_dots post Ke_155 m x6 x7 x8 (bvl b k) u1 u2 u3 v1 v2 v3 v4 v5 v6 v7 v8 v9 v10 := by
  obtain ⟨hN1, hN2, hN3⟩ := bN_le b hb
  have hd : ∀ y, y < 16 → d y < 256 := fun y hy => (hp y hy).2
  intro m
  induction m with
  | zero => intro k x6 x7 x8 u1 u2 u3 v1 v2 v3 v4 v5 v6 v7 v8 v9 v10 g1 g2; omega
  | succ m ih =>
    intro k x6 x7 x8 u1 u2 u3 v1 v2 v3 v4 v5 v6 v7 v8 v9 v10 g1 g2 hhd h0 h1
    unfold wq_X4_betterOf_80
    rw [bvl_hi b hb k (by omega) g1]
    refine ⟨fun q => ?_, fun q => ?_⟩
    · have e : k = bN b := by omega
      obtain ⟨e1, e2, e3⟩ := h1 (by omega)
      rw [e1, e2, e]
      exact hK _ _ _ _ _ _ _ _ _ _ _ _ _
    · refine ⟨vp_in_nI hN3 (by omega), ?_⟩
      rw [nI_clamp (by omega)]
      have hhd' := sB_hd H hb (i := k) (by omega) hhd
      refine r_runs hhd' hA hp (fun aM aW aP hm hP hN hR cM pB mi pt gt hRun => ?_)
      dsimp only
      have e1 : aM = nI (mB s al d b k) := by rw [hRun.2.1.1, sm16_stk]; rfl
      have e2 : aW = nI (sWant (sB s b k) al d) := by rw [hRun.2.1.2.1, sm16_stk]; rfl
      rw [e1, e2]
      obtain ⟨t1, t2⟩ := mB_le H al hd hb (i := k) (by omega)
      have hup : ∀ i, i < 9 → i ≠ bix b → upd v1 (bix b) (bvl b k) i = hv s i := fun i h9 hi => by rw [pk_un hi]; exact hhd i h9 hi
      simp only [forall_eq]
      rw [bvl_s]
      by_cases k0 : k = 0
      · have st := ih (k + 1) (bvl b k) (nI (mB s al d b k)) (nI (sWant (sB s b k) al d)) (nI (mB s al d b k)) (nI (sWant (sB s b k) al d)) aP (upd v1 (bix b) (bvl b k)) hm hP hN hR cM pB mi pt gt (by omega) (by omega) hup (fun q => by omega) (fun _ => by
          rw [bB_s, if_pos k0, k0]; exact ⟨rfl, rfl, rfl⟩)
        exact yes1 (h0 k0) st
      · obtain ⟨f1, f2, f3⟩ := h1 (by omega)
        have hl := bi_lt (mB s al d b) (tB s al d b) k (by omega)
        have hl : bB s al d b k < k := hl
        obtain ⟨t3, t4⟩ := mB_le H al hd hb (i := bB s al d b k) (by omega)
        rw [f2, f3, f1, nI_ltI (by omega) (by omega), nI_eq (by omega) (by omega), nI_leI (by omega) (by omega)]
        refine no1 (bvl_min b hb _ (by omega)) ?_
        have yes : btr (mB s al d b) (tB s al d b) k (bB s al d b k) = true → wq_X4_betterOf_80 f_this_events c_this_told c_this_head c_this_eventKind c_this_eventAt c_this_eventNozzle x2 (nI (bix b)) (bhi b) f_this_notEvents f_this_deadNow c_this_dots post Ke_155 m (bvl b k) (nI (mB s al d b k)) (nI (sWant (sB s b k) al d)) (bvl b (k + 1)) (nI (mB s al d b k)) (nI (sWant (sB s b k) al d)) aP (upd v1 (bix b) (bvl b k)) hm hP hN hR cM pB mi pt gt := fun c => ih (k + 1) (bvl b k) (nI (mB s al d b k)) (nI (sWant (sB s b k) al d)) _ _ _ _ _ _ _ _ _ _ _ _ _ (by omega) (by omega) hup (fun q => by omega) (fun _ => by
          rw [bB_s, if_neg k0, if_pos c]; exact ⟨rfl, rfl, rfl⟩)
        have no : ¬ btr (mB s al d b) (tB s al d b) k (bB s al d b k) = true → wq_X4_betterOf_80 f_this_events c_this_told c_this_head c_this_eventKind c_this_eventAt c_this_eventNozzle x2 (nI (bix b)) (bhi b) f_this_notEvents f_this_deadNow c_this_dots post Ke_155 m (bvl b (bB s al d b k)) (nI (mB s al d b (bB s al d b k))) (nI (sWant (sB s b (bB s al d b k)) al d)) (bvl b (k + 1)) (nI (mB s al d b k)) (nI (sWant (sB s b k) al d)) aP (upd v1 (bix b) (bvl b k)) hm hP hN hR cM pB mi pt gt := fun c => ih (k + 1) (bvl b (bB s al d b k)) (nI (mB s al d b (bB s al d b k))) (nI (sWant (sB s b (bB s al d b k)) al d)) _ _ _ _ _ _ _ _ _ _ _ _ _ (by omega) (by omega) hup (fun q => by omega) (fun _ => by
          rw [bB_s, if_neg k0, if_neg c]; exact ⟨rfl, rfl, rfl⟩)
        unfold btr at yes no
        rw [decide_eq_true_eq] at yes no
        refine ⟨fun c => yes (Or.inl c), fun c => ⟨fun c2 => no (by omega), fun c2 => ⟨fun c3 => no (by omega), fun c3 => yes (by omega)⟩⟩⟩
theorem r_betterOf {d s : Nat → Nat} {n : Nat} {ek ea en : Nat → Nat} {b w : Nat} {f_this_events : Int32} {f_this_notEvents : Int32} {f_this_deadNow : Int32} {f_this_allMissed : Int32} {f_this_allWanted : Int32} {f_this_allPrinted : Int32} {c_this_told : Nat → Int32} {c_this_head : Nat → Int32} {c_this_eventKind : Nat → Int32} {c_this_eventAt : Nat → Int32} {c_this_eventNozzle : Nat → Int32} {c_this_dots : Nat → Int32} {c_this_now : Nat → Int32} {c_this_hitMany : Nat → Int32} {c_this_hitPass : Nat → Int32} {c_this_hitNozzle : Nat → Int32} {c_this_hitPrints : Nat → Int32} {c_this_canMany : Nat → Int32} {c_this_printedBy : Nat → Int32} {c_this_missing : Nat → Int32} {c_this_prints : Nat → Int32} {c_this_gutter : Nat → Int32} {post : Int32 → (Int32 × Int32 × Int32 × Int32 × Int32 × (Nat → Int32) × (Nat → Int32) × (Nat → Int32) × (Nat → Int32) × (Nat → Int32) × (Nat → Int32) × (Nat → Int32) × (Nat → Int32) × (Nat → Int32) × (Nat → Int32) × (Nat → Int32)) → Prop} (I : RefI d s n ek ea en c_this_told c_this_head f_this_events c_this_eventKind c_this_eventAt c_this_eventNozzle) (hb : b < 3) (hw : w ≤ 1) (h : ∀ u, post (aBet s (al0 n ek ea en) d b w) u) : wp_X4_betterOf (nI b) (nI w) f_this_events f_this_notEvents f_this_deadNow f_this_allMissed f_this_allWanted f_this_allPrinted c_this_told c_this_head c_this_eventKind c_this_eventAt c_this_eventNozzle c_this_dots c_this_now c_this_hitMany c_this_hitPass c_this_hitNozzle c_this_hitPrints c_this_canMany c_this_printedBy c_this_missing c_this_prints c_this_gutter post := by
  obtain ⟨i1, i2, i3, i4⟩ := I
  have H := i2.1
  unfold wp_X4_betterOf
  refine r_asTold i1 i2 (fun dots now hd hn => ?_)
  have hA := r_alN i4 (ne := 0) (by decide)
  rw [alN_0, ← i3] at hA
  dsimp only
  have lo : blo b = bvl b 0 := by unfold bvl; rw [show nI 0 = (0 : Int32) from rfl, Int32.zero_add]
  have fin : wq_X4_betterOf_64 f_this_events c_this_told c_this_head c_this_eventKind c_this_eventAt c_this_eventNozzle (nI b) (nI w) post (nI (bix b)) (blo b) (bhi b) 0 (-1) f_this_allMissed f_this_allWanted f_this_allPrinted dots now c_this_hitMany c_this_hitPass c_this_hitNozzle c_this_hitPrints c_this_canMany c_this_printedBy c_this_missing c_this_prints c_this_gutter := by
    unfold wq_X4_betterOf_64
    rw [lo]
    refine ⟨bN b + 1, r_better_loop H hb hd hA (fun u1 u2 u3 v1 v2 v3 v4 v5 v6 v7 v8 v9 v10 => ?_) (bN b + 1) 0 _ _ _ _ _ _ _ _ _ _ _ _ _ _ _ _ (by omega) (by omega) (fun i h9 _ => hn.2 i h9) (fun _ => rfl) (fun q => by omega)⟩
    unfold aBet at h
    by_cases w0 : w = 0
    · simp only [if_pos w0] at h
      exact yes2 (by rw [w0]; rfl) (h _)
    · simp only [if_neg w0] at h
      exact no2 (fun q => w0 ((nI_eq (b := 0) (by omega) (by omega)).mp q)) (h _)
  have : b = 0 ∨ b = 1 ∨ b = 2 := by omega
  rcases this with e | e | e
  · subst e
    refine yes2 rfl ?_
    unfold wq_X4_betterOf_23
    refine yes2 rfl ?_
    unfold wq_X4_betterOf_43
    exact yes2 rfl fin
  · subst e
    refine no2 (by decide) (yes2 rfl ?_)
    unfold wq_X4_betterOf_23
    refine no2 (by decide) (yes2 rfl ?_)
    unfold wq_X4_betterOf_43
    exact no2 (by decide) (yes2 rfl fin)
  · subst e
    refine no2 (by decide) (no2 (by decide) ?_)
    unfold wq_X4_betterOf_23
    refine no2 (by decide) (no2 (by decide) ?_)
    unfold wq_X4_betterOf_43
    exact no2 (by decide) (no2 (by decide) fin)
theorem r_better {d s : Nat → Nat} {n : Nat} {ek ea en : Nat → Nat} {x1 : Int32} {x2 : Int32} {f_this_events : Int32} {f_this_notEvents : Int32} {f_this_deadNow : Int32} {f_this_allMissed : Int32} {f_this_allWanted : Int32} {f_this_allPrinted : Int32} {c_this_told : Nat → Int32} {c_this_head : Nat → Int32} {c_this_eventKind : Nat → Int32} {c_this_eventAt : Nat → Int32} {c_this_eventNozzle : Nat → Int32} {c_this_dots : Nat → Int32} {c_this_now : Nat → Int32} {c_this_hitMany : Nat → Int32} {c_this_hitPass : Nat → Int32} {c_this_hitNozzle : Nat → Int32} {c_this_hitPrints : Nat → Int32} {c_this_canMany : Nat → Int32} {c_this_printedBy : Nat → Int32} {c_this_missing : Nat → Int32} {c_this_prints : Nat → Int32} {c_this_gutter : Nat → Int32} {post : Int32 → (Int32 × Int32 × Int32 × Int32 × Int32 × (Nat → Int32) × (Nat → Int32) × (Nat → Int32) × (Nat → Int32) × (Nat → Int32) × (Nat → Int32) × (Nat → Int32) × (Nat → Int32) × (Nat → Int32) × (Nat → Int32) × (Nat → Int32)) → Prop} (I : RefI d s n ek ea en c_this_told c_this_head f_this_events c_this_eventKind c_this_eventAt c_this_eventNozzle) (h : ∀ u, post (aBetter s (al0 n ek ea en) d x1 x2) u) : wp_X4_better x1 x2 f_this_events f_this_notEvents f_this_deadNow f_this_allMissed f_this_allWanted f_this_allPrinted c_this_told c_this_head c_this_eventKind c_this_eventAt c_this_eventNozzle c_this_dots c_this_now c_this_hitMany c_this_hitPass c_this_hitNozzle c_this_hitPrints c_this_canMany c_this_printedBy c_this_missing c_this_prints c_this_gutter post := by
  unfold wp_X4_better
  unfold aBetter at h
  by_cases c1 : (0 : Int32) ≤ x1 ∧ x1 ≤ 2
  · refine r_threeT c1 (no1 one0 ?_)
    by_cases c2 : (0 : Int32) ≤ x2 ∧ x2 ≤ 1
    · refine r_twoT c2 (no1 one0 ?_)
      rw [if_pos ⟨c1, c2⟩] at h
      obtain ⟨b, hb, e⟩ := (q_rng (n := 2) (by decide)).mp c1
      subst e
      obtain ⟨w, hw, e⟩ := (q_rng (n := 1) (by decide)).mp c2
      subst e
      rw [nI_clamp (by omega), nI_clamp (by omega)] at h
      exact r_betterOf I (by omega) hw (fun u => h _)
    · rw [if_neg (fun q => c2 q.2)] at h
      exact r_twoF c2 (yes1 rfl (h _))
  · rw [if_neg (fun q => c1 q.1)] at h
    exact r_threeF c1 (yes1 rfl (h _))
