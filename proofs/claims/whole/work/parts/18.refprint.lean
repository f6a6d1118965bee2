/-! the reference prints -/
def RAlv (al : Nat → Nat → Bool) (ev ne dead : Int32) (ck ca cn : Nat → Int32) : Prop := ∀ (p j : Nat) (post : Int32 → Unit → Prop), p < 2 ^ 31 → j < 2 ^ 31 → post (b01 (al p j)) () → wp_X4_isAlive (nI p) (nI j) ev ne dead ck ca cn post
theorem r_alv {n : Nat} {ek ea en : Nat → Nat} {ck ca cn : Nat → Int32} (hE : EvOk n ek ea en ck ca cn) {ne : Nat} {dd : Option Nat} (hne : ne < 2 ^ 31) (hdd : ∀ x, dd = some x → x < 2 ^ 31) : RAlv (fun p j => decide (dd ≠ some j) && alv n ek ea en (fun e => !ne.testBit e) p j) (nI n) (nI ne) (oI dd) ck ca cn := fun _ _ _ hp hj h => r_isAlive hE hne hp hj hdd h
def RefH (s : Nat → Nat) (hm hP hN : Nat → Int32) : Prop := CntOk s (prs (s 0) (s 3)) hm ∧ RowOk s (prs (s 0) (s 3)) vHp hP ∧ RowOk s (prs (s 0) (s 3)) vHn hN
theorem RefH.cnt {s : Nat → Nat} {hm hP hN : Nat → Int32} (h : RefH s hm hP hN) {y : Nat} (hy : y < 16) : hm y = nI (hs s y).length := h.1 y hy
theorem RefH.ps {s : Nat → Nat} {hm hP hN : Nat → Int32} (h : RefH s hm hP hN) {y i : Nat} {q : Nat × Nat} (hy : y < 16) (hq : (hs s y)[i]? = some q) : hP (12 * y + i) = nI q.1 := h.2.1 y hy i q hq
theorem RefH.nz {s : Nat → Nat} {hm hP hN : Nat → Int32} (h : RefH s hm hP hN) {y i : Nat} {q : Nat × Nat} (hy : y < 16) (hq : (hs s y)[i]? = some q) : hN (12 * y + i) = nI q.2 := h.2.2 y hy i q hq
theorem r_reaches {s : Nat → Nat} {now : Nat → Int32} (hh : Hd s now) {p x : Nat} (hp : p < 2 ^ 31) (hx : x < 8) {post : Int32 → Unit → Prop} (h : post (b01 (rch s p x)) ()) : wp_X4_reaches (nI p) (nI x) now post := by
  obtain ⟨a0, a1, a2, a3, a4, a5, a6, a7, a8⟩ := hh.1
  unfold wp_X4_reaches
  rw [hh.at 7 (by omega) (by omega)]
  simp only [fa_lit]
  rw [pk_rem hp (by decide) (by decide), pk_sub (by omega)]
  simp (disch := omega) only [nI_eq, nI_ltI, nI_leI]
  unfold rch at h
  refine ⟨fun c => ⟨fun c1 => ?_, fun c1 => ?_⟩, fun c => ⟨fun c1 => ?_, fun c1 => ?_⟩⟩
  · rw [if_neg c, decide_eq_false (by omega)] at h; exact h
  · rw [if_neg c, decide_eq_true (by omega)] at h; exact h
  · rw [if_pos c, decide_eq_false (by omega)] at h; exact h
  · rw [if_pos c, decide_eq_true (by omega)] at h; exact h
theorem r_isAble {s : Nat → Nat} {al : Nat → Nat → Bool} {now hm hP hN ck ca cn : Nat → Int32} {ev ne dead : Int32} (hh : Hd s now) (hA : RAlv al ev ne dead ck ca cn) (hH : RefH s hm hP hN) {y i x : Nat} {q : Nat × Nat} (hy : y < 16) (hx : x < 8) (hq : (hs s y)[i]? = some q) {post : Int32 → Unit → Prop} (h : post (b01 (can s al q x)) ()) : wp_X4_isAble (nI y) (nI i) (nI x) ev ne dead ck ca cn now hP hN post := by
  obtain ⟨b1, b2, b3, b4⟩ := hs_bd hh.1 hq
  unfold wp_X4_isAble
  simp (disch := omega) only [forall_eq, fa_lit, pk_mul, nI_add, q_in, nI_clamp, hH.ps hy hq, hH.nz hy hq, true_and]
  refine hA q.1 q.2 _ (by omega) (by omega) ?_
  rw [show (nI 0 : Int32) = 0 from rfl, b01_0]
  refine ⟨fun c => ?_, fun c => ?_⟩
  · rw [can, c, Bool.false_and] at h; exact h
  · have c : al q.1 q.2 = true := by cases e : al q.1 q.2 with
      | false => exact absurd e c
      | true => rfl
    rw [can, c, Bool.true_and] at h
    refine r_reaches hh (by omega) hx ?_
    rw [b01_0]
    refine ⟨fun c1 => ?_, fun c1 => ?_⟩
    · rw [c1] at h; exact h
    · have c1 : rch s q.1 x = true := by cases e : rch s q.1 x with
        | false => exact absurd e c1
        | true => rfl
      rw [c1] at h; exact h
theorem r_wants {s : Nat → Nat} {now dots hm hP hN : Nat → Int32} (hh : Hd s now) (hH : RefH s hm hP hN) {d y x : Nat} (hy : y < 16) (hx : x < 8) (hpic : dots y = nI d) (hd : d < 256) {post : Int32 → Unit → Prop} (h : post (oI (wnt s d y x)) ()) : wp_X4_wants (nI y) (nI x) dots now hm post := by
  obtain ⟨a0, a1, a2, a3, a4, a5, a6, a7, a8⟩ := hh.1
  have hl12 := hs_len12 hh.1 y
  have hm24 := mkn_lt (s := s) hy hx
  have join : ∀ v, v = mkn s y x → wq_X4_wants_51 dots now hm (nI y) (nI x) post (nI v) := by
    intro v hv
    unfold wq_X4_wants_51
    simp (disch := omega) only [forall_eq, fa_lit, q_in, nI_clamp, hH.cnt hy, hpic, true_and, nI_eq]
    unfold wnt at h
    refine ⟨fun c => ?_, fun c => ?_⟩
    · rw [if_neg (fun q => q.1 c)] at h; exact h
    · refine r_isIn (by omega) (by omega) ?_
      rw [show (nI 0 : Int32) = 0 from rfl, b01_0]
      refine ⟨fun c1 => ?_, fun c1 => ?_⟩
      · have c1 : d.testBit x = true := by cases e : d.testBit x with
          | false => exact absurd e c1
          | true => rfl
        rw [if_pos ⟨c, c1⟩] at h
        refine ⟨c, ?_⟩
        rw [pk_rem (by omega) (by omega) (by omega), hv]
        exact h
      · rw [if_neg (fun q => by rw [c1] at q; exact absurd q.2 (by decide))] at h; exact h
  unfold wp_X4_wants
  rw [hh.at 8 (by omega) (by omega)]
  simp (disch := omega) only [forall_eq, fa_lit, nI_eq, nI_add, pk_div]
  refine ⟨fun c => ⟨fun c1 => ⟨fun c2 => ?_, fun c2 => ?_⟩, fun c1 => ?_⟩, fun c => ?_⟩
  · exact join _ (by rw [mkn, if_neg c, if_neg c1, if_neg c2])
  · exact join _ (by rw [mkn, if_neg c, if_neg c1, if_pos c2])
  · exact join _ (by rw [mkn, if_neg c, if_pos c1])
  · exact join _ (by rw [mkn, if_pos c])
theorem r_able_in {s : Nat → Nat} {al : Nat → Nat → Bool} {now hm hP hN ck ca cn pB : Nat → Int32} {ev ne dead : Int32} (hh : Hd s now) (hA : RAlv al ev ne dead ck ca cn) (hH : RefH s hm hP hN) {y x : Nat} (hy : y < 16) (hx : x < 8) {cM : Nat → Int32} {post : ((Nat → Int32) × (Nat → Int32)) → Prop} {Ke : (Nat → Int32) → Prop} (hK : ∀ c, (∀ k, k ≠ 8 * y + x → c k = cM k) → c (8 * y + x) = nI (cm s al y x) → Ke c) :
    ∀ (m i : Nat) (c : Nat → Int32), i ≤ (hs s y).length → (hs s y).length - i < m → (∀ k, k ≠ 8 * y + x → c k = cM k) → c (8 * y + x) = nI (((hs s y).take i).countP (fun q => can s al q x)) → wq_X4_findsAble_42 ev ne dead ck ca cn now hm hP hN (nI y) (nI x) pB post Ke m (nI i) c := by
  have hl12 := hs_len12 hh.1 y
  intro m
  induction m with
  | zero => intro i c g1 g2; omega
  | succ m ih =>
    intro i c g1 g2 h1 h2
    unfold wq_X4_findsAble_42
    simp (disch := omega) only [forall_eq, fa_lit, pk_mul, nI_add, q_in, nI_clamp, hH.cnt hy, true_and, nI_leI, h2]
    refine ⟨fun c1 => ?_, fun c1 => ?_⟩
    · have e : i = (hs s y).length := by omega
      subst e
      rw [List.take_length] at h2
      exact hK c h1 h2
    · obtain ⟨q, hq⟩ := hs_get (s := s) (y := y) (i := i) (by omega)
      refine r_isAble hh hA hH hy hx hq ?_
      rw [show (nI 0 : Int32) = 0 from rfl, b01_0]
      have hct := cnt_take hq (fun q => can s al q x)
      refine ⟨fun c2 => ?_, fun c2 => ?_⟩
      · refine ih (i + 1) _ (by omega) (by omega) (fun k hk => by rw [pk_un hk]; exact h1 k hk) ?_
        rw [pk_us, hct, c2]; rfl
      · have c2 : can s al q x = true := by cases e : can s al q x with
          | false => exact absurd e c2
          | true => rfl
        refine ih (i + 1) _ (by omega) (by omega) (fun k hk => by rw [pk_un hk]; exact h1 k hk) ?_
        rw [pk_us, hct, c2]; rfl
theorem r_findsAble {s : Nat → Nat} {al : Nat → Nat → Bool} {now hm hP hN ck ca cn cM0 pB0 : Nat → Int32} {ev ne dead : Int32} (hh : Hd s now) (hA : RAlv al ev ne dead ck ca cn) (hH : RefH s hm hP hN) {post : ((Nat → Int32) × (Nat → Int32)) → Prop}
    (h : ∀ cM pB, (∀ y, y < 16 → ∀ x, x < 8 → cM (8 * y + x) = nI (cm s al y x) ∧ pB (8 * y + x) = oI none) → post (cM, pB)) : wp_X4_findsAble ev ne dead ck ca cn now hm hP hN cM0 pB0 post := by
  unfold wp_X4_findsAble
  have inner : ∀ y, y < 16 → ∀ (Ke : (Nat → Int32) → (Nat → Int32) → Prop), (∀ cM pB, (∀ z, z < y + 1 → ∀ x, x < 8 → cM (8 * z + x) = nI (cm s al z x) ∧ pB (8 * z + x) = oI none) → Ke cM pB) → ∀ (m x : Nat) (cM pB : Nat → Int32), x ≤ 8 → 8 - x < m → (∀ z u, u < 8 → 8 * z + u < 8 * y + x → cM (8 * z + u) = nI (cm s al z u) ∧ pB (8 * z + u) = oI none) → wq_X4_findsAble_10 ev ne dead ck ca cn now hm hP hN (nI y) post Ke m (nI x) cM pB := by
    intro y hy Ke hK m
    induction m with
    | zero => intro x cM pB g1 g2; omega
    | succ m ih =>
      intro x cM pB g1 g2 hI
      unfold wq_X4_findsAble_10
      simp (disch := omega) only [forall_eq, fa_lit, pk_mul, nI_add, nI_leI]
      refine ⟨fun c => ?_, fun c => ?_⟩
      · exact hK cM pB (fun z hz u hu => hI z u hu (by omega))
      · simp (disch := omega) only [q_in, nI_clamp, true_and]
        refine ⟨13, r_able_in (cM := upd cM (8 * y + x) (nI 0)) hh hA hH hy (by omega) (fun c' h1 h2 => ?_) 13 0 _ (by omega) (by have := hs_len12 hh.1 y; omega) (fun k _ => rfl) (by rw [pk_us]; rfl)⟩
        refine ih (x + 1) _ _ (by omega) (by omega) (fun z u hu hlt => ?_)
        by_cases e : 8 * z + u = 8 * y + x
        · have e1 : z = y := by omega
          have e2 : u = x := by omega
          subst e1; subst e2
          exact ⟨h2, by rw [pk_us]; rfl⟩
        · rw [h1 _ e, pk_un e, pk_un e]
          exact hI z u hu (by omega)
  have outer : ∀ (m y : Nat) (cM pB : Nat → Int32), y ≤ 16 → 16 - y < m → (∀ z, z < y → ∀ x, x < 8 → cM (8 * z + x) = nI (cm s al z x) ∧ pB (8 * z + x) = oI none) → wq_X4_findsAble_2 ev ne dead ck ca cn now hm hP hN post (fun d110 d111 => post (d110, d111)) m (nI y) cM pB := by
    intro m
    induction m with
    | zero => intro y cM pB g1 g2; omega
    | succ m ih =>
      intro y cM pB g1 g2 hI
      unfold wq_X4_findsAble_2
      simp (disch := omega) only [fa_lit, nI_leI]
      refine ⟨fun c => h _ _ (fun z hz x hx => hI z (by omega) x hx), fun c => ?_⟩
      refine ⟨9, inner y (by omega) _ (fun cM' pB' hI' => ?_) 9 0 cM pB (by omega) (by omega) (fun z u hu hlt => hI z (by omega) u hu)⟩
      intro v hv
      rw [hv, nI_add]
      exact ih (y + 1) _ _ (by omega) (by omega) hI'
  exact ⟨17, outer 17 0 cM0 pB0 (by omega) (by omega) (fun z hz => by omega)⟩
/-- the reference's rows -/
def RefP (s : Nat → Nat) (st : Nat → PSt) (aM aW aP : Int32) (hR pB mi pt : Nat → Int32) : Prop :=
  aM = nI (sm16 (fun t => t.2.2.2.1) st) ∧ aW = nI (sm16 (fun t => t.2.2.2.2.2) st) ∧ aP = nI (sm16 (fun t => t.2.2.2.2.1 + t.2.2.2.2.2) st) ∧ (∀ y, y < 16 → ∀ (i : Nat) (q : Nat × Nat), (hs s y)[i]? = some q → hR (12 * y + i) = nI ((st y).1 i)) ∧ (∀ y, y < 16 → ∀ x, x < 8 → pB (8 * y + x) = oI ((st y).2.1 x)) ∧ (∀ y, y < 16 → mi y = nI (st y).2.2.1) ∧ DpOk s st pt
theorem r_printsOne {s : Nat → Nat} {al : Nat → Nat → Bool} {now dots hm hP hN ck ca cn : Nat → Int32} {ev ne dead : Int32} (hh : Hd s now) (hA : RAlv al ev ne dead ck ca cn) (hH : RefH s hm hP hN) {st : Nat → PSt} {d y x : Nat} (hy : y < 16) (hx : x < 8) {aM aW aP : Int32} {hR pB mi pt : Nat → Int32} (hS : RefP s st aM aW aP hR pB mi pt) (hB : Bnd s st) (hpic : dots y = nI d) (hd : d < 256) (hbit : d.testBit x = true) {post : (Int32 × Int32 × Int32 × (Nat → Int32) × (Nat → Int32) × (Nat → Int32) × (Nat → Int32)) → Prop}
    (h : ∀ aM aW aP hR pB mi pt, RefP s (va_up st y (stp s al y (st y) x)) aM aW aP hR pB mi pt → post (aM, aW, aP, hR, pB, mi, pt)) : wp_X4_printsOne (nI y) (nI x) ev ne dead aM aW aP ck ca cn dots now hm hP hN hR pB mi pt post := by
  have H := hh.1
  obtain ⟨a0, a1, a2, a3, a4, a5, a6, a7, a8⟩ := id H
  have hl12 := hs_len12 H y
  obtain ⟨p1, p2, p3, p4, p5, p6, p7⟩ := hS
  unfold wp_X4_printsOne
  refine r_wants hh hH hy hx hpic hd ?_
  have key : ∀ (K1 : Prop) (K2 : Int32 → Int32 → Prop) (w : Int32), (0 < (hs s y).length → w = nI (wn s y x)) → (fst1 s al y x (st y).1 = none → K1) → (∀ i, fst1 s al y x (st y).1 = some i → K2 (nI i) (nI (12 * y + i))) → ∀ (m r : Nat), r ≤ (hs s y).length → r < m → fmf (hs s y).length (wn s y x) (may s al y x (st y).1) r = fst1 s al y x (st y).1 → wq_X4_printsOne_10 ev ne dead ck ca cn dots now hm hP hN (nI y) (nI x) w aM aW aP hR pB mi pt post K1 K2 m (nI ((hs s y).length - r)) := by
    intro K1 K2 w hw hK1 hK2 m
    induction m with
    | zero => intro r g1 g2; omega
    | succ m ih =>
      intro r g1 g2 hr
      unfold wq_X4_printsOne_10
      simp (disch := omega) only [q_in, nI_clamp, hH.cnt hy, true_and, nI_leI]
      cases r with
      | zero => exact ⟨fun _ => hK1 (by rw [← hr]; rfl), fun c => absurd (by omega) c⟩
      | succ r =>
        have hpos : 0 < (hs s y).length := by omega
        have hwl := wn_lt (s := s) (x := x) hpos
        refine ⟨fun c => absurd c (by omega), fun _ => ?_⟩
        rw [hw hpos]
        simp (disch := omega) only [forall_eq, nI_add, fa_lit]
        have hmod : (wn s y x + ((hs s y).length - (r + 1))) % (hs s y).length < (hs s y).length := Nat.mod_lt _ hpos
        refine ⟨nI_ne0 hpos (by omega), ?_⟩
        rw [pk_rem (by omega) hpos (by omega), pk_mul, nI_add]
        generalize hi : (wn s y x + ((hs s y).length - (r + 1))) % (hs s y).length = i at hmod ⊢
        obtain ⟨q, hq⟩ := hs_get (s := s) (y := y) hmod
        obtain ⟨b1, b2, b3, b4⟩ := hs_bd H hq
        have hbd := hB y i
        have nx : fmf (hs s y).length (wn s y x) (may s al y x (st y).1) (r + 1) = (if may s al y x (st y).1 i = true then some i else fmf (hs s y).length (wn s y x) (may s al y x (st y).1) r) := by
          rw [fmf, hi]
        rw [nx] at hr
        have e1 : (hs s y).length - (r + 1) + 1 = (hs s y).length - r := by omega
        simp (disch := omega) only [q_in, nI_clamp, true_and, p4 y hy i q hq, hh.at 5 (by omega) (by omega), nI_leI, e1]
        refine ⟨fun c1 => ?_, fun c1 => ?_⟩
        · rw [← hw hpos]
          refine ih r (by omega) (by omega) ?_
          rw [if_neg (by intro q; simp only [may, Bool.and_eq_true, decide_eq_true_eq] at q; omega)] at hr
          exact hr
        · refine r_isAble hh hA hH hy hx hq ?_
          have hcni : cni s al y i x = can s al q x := by rw [cni, hq]
          rw [show (nI 0 : Int32) = 0 from rfl, b01_0]
          refine ⟨fun c2 => ?_, fun c2 => ?_⟩
          · rw [← hw hpos]
            refine ih r (by omega) (by omega) ?_
            rw [if_neg (by intro q; simp only [may, Bool.and_eq_true] at q; rw [hcni, c2] at q; exact absurd q.1 (by decide))] at hr
            exact hr
          · have c2 : can s al q x = true := by cases e : can s al q x with
              | false => exact absurd e c2
              | true => rfl
            rw [if_pos (by simp only [may, Bool.and_eq_true, decide_eq_true_eq]; rw [hcni]; exact ⟨c2, by omega⟩)] at hr
            exact hK2 i hr.symm
  have key0 : ∀ (K1 : Prop) (K2 : Int32 → Int32 → Prop) (w : Int32), (0 < (hs s y).length → w = nI (wn s y x)) → (fst1 s al y x (st y).1 = none → K1) → (∀ i, fst1 s al y x (st y).1 = some i → K2 (nI i) (nI (12 * y + i))) → ∃ n, wq_X4_printsOne_10 ev ne dead ck ca cn dots now hm hP hN (nI y) (nI x) w aM aW aP hR pB mi pt post K1 K2 n (0 : Int32) := by
    intro K1 K2 w hw h1 h2
    have := key K1 K2 w hw h1 h2 ((hs s y).length + 1) (hs s y).length (Nat.le_refl _) (by omega) rfl
    rw [Nat.sub_self] at this
    exact ⟨_, this⟩
  refine key0 _ _ _ (fun h0 => by unfold wnt; rw [if_pos ⟨by omega, hbit⟩]; rfl) ?_ ?_
  · intro hf
    simp (disch := omega) only [q_in, true_and, forall_eq, nI_clamp, p6 y hy, p1, fa_lit, nI_add]
    rw [q_shl (by omega) (by
      have : 2 ^ x ≤ 2 ^ 7 := Nat.pow_le_pow_right (by decide) (by omega)
      omega), Nat.one_mul, fa_or]
    refine h _ _ _ _ _ _ _ ?_
    rw [stp_none hf]
    refine ⟨?_, ?_, ?_, fun z hz i q hq => ?_, fun z hz u hu => ?_, row_up (P := fun _ t v => v = nI t.2.2.1) p6 rfl, dp_keep p7 rfl⟩
    · rw [sm16_up _ st hy _ 1 rfl]
    · rw [sm16_eq _ st hy]
      · exact p2
      · rfl
    · rw [sm16_eq _ st hy]
      · exact p3
      · rfl
    · by_cases ez : z = y
      · subst ez; rw [va_up_self]; exact p4 z hz i q hq
      · rw [va_up_ne _ _ ez]; exact p4 z hz i q hq
    · by_cases ez : z = y
      · subst ez; rw [va_up_self]; exact p5 z hz u hu
      · rw [va_up_ne _ _ ez]; exact p5 z hz u hu
  · intro i hf
    obtain ⟨f1, f2, f3⟩ := fst1_spec hf
    obtain ⟨q, hq⟩ := hs_get (s := s) (y := y) f1
    obtain ⟨b1, b2, b3, b4⟩ := hs_bd H hq
    have hst := stp_some hf
    have hwn : wnt s d y x = some (wn s y x) := by unfold wnt; rw [if_pos ⟨by omega, hbit⟩]
    have hwl := wn_lt (s := s) (x := x) (y := y) (by omega)
    rw [hwn]
    simp (disch := omega) only [forall_eq, fa_lit, pk_mul, nI_add, q_in, nI_clamp, p4 y hy i q hq, hH.ps hy hq, hH.nz hy hq, p7.1 y hy i q hq, true_and, oI, nI_eq, p2, p3]
    have tail : ∀ w1, w1 = nI (sm16 (fun t => t.2.2.2.2.2) (va_up st y (stp s al y (st y) x))) → post (aM, w1, nI (sm16 (fun t => t.2.2.2.2.1 + t.2.2.2.2.2) st + 1), upd hR (12 * y + i) (nI ((st y).1 i + 1)), upd pB (8 * y + x) (nI i), mi, upd pt (8 * q.1 + q.2) (nI ((st y).1 i + 1))) := by
      intro w1 hw1
      refine h _ _ _ _ _ _ _ ⟨?_, hw1, ?_, fun z hz i' q' hq' => ?_, ph_up p5 hy hx (by rw [hst]), row_keep (P := fun _ t v => v = nI t.2.2.1) p6 (fun v hv => by rw [hst]; exact hv), dp_add H p7 hy hq (by rw [hst])⟩
      · rw [sm16_eq _ st hy _ (by rw [hst])]; exact p1
      · rw [sm16_up _ st hy _ 1]
        rw [hst]
        show (if i = wn s y x then _ else _) + (if i = wn s y x then _ else _) = _
        by_cases c : i = wn s y x
        · rw [if_pos c, if_pos c]; rfl
        · rw [if_neg c, if_neg c]; omega
      · have b' := hs_bd H hq'
        by_cases ez : z = y
        · subst ez
          rw [va_up_self, hst]
          by_cases ei : i' = i
          · subst ei; rw [pk_us]; show _ = nI (va_up _ _ _ _); rw [va_up_self]
          · rw [pk_un (by omega)]; show _ = nI (va_up _ _ _ _); rw [va_up_ne _ _ ei]; exact p4 z hz i' q' hq'
        · rw [pk_un (by omega), va_up_ne _ _ ez]; exact p4 z hz i' q' hq'
    refine ⟨fun c => tail _ ?_, fun c => tail _ ?_⟩
    · rw [sm16_up _ st hy _ 0]
      rw [hst]
      show (if i = wn s y x then _ else _) = _
      rw [if_neg c]; rfl
    · rw [sm16_up _ st hy _ 1]
      rw [hst]
      show (if i = wn s y x then _ else _) = _
      rw [if_pos c]
