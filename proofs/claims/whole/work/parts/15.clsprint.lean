/-! the class prints -/
theorem q_rchE : ∀ e, e < 4 → ∀ x, x < 8 → (255 / 2 ^ e).testBit x = decide (x < 8 - e) := by decide +kernel
theorem q_rchO : ∀ e, e < 4 → ∀ x, x < 8 → (255 * 2 ^ e % 256).testBit x = decide (e ≤ x) := by decide +kernel
theorem s_columnsReached {s : Nat → Nat} {head : Nat → Int32} (hh : Hd s head) {p : Nat} {post : Int32 → Unit → Prop} (h : ∀ a, a < 256 → (∀ x, x < 8 → a.testBit x = rch s p x) → post (nI a) ()) : wp_X1_columnsReached (nI p) head post := by
  obtain ⟨a0, a1, a2, a3, a4, a5, a6, a7, a8⟩ := hh.1
  unfold wp_X1_columnsReached
  rw [hh.at 7 (by omega) (by omega)]
  refine s_goesRight ?_
  rw [b01_0]
  refine ⟨fun c => ?_, fun c => ?_⟩
  · have c : ¬ p % 2 = 0 := of_decide_eq_false c
    simp only [forall_eq, fa_lit]
    have hsh : (255 : Nat) * 2 ^ s 7 < 2 ^ 32 := by
      have : 2 ^ s 7 ≤ 2 ^ 3 := Nat.pow_le_pow_right (by decide) a7
      omega
    rw [q_shl (by omega) hsh, q_and255]
    refine h _ (Nat.mod_lt _ (by decide)) (fun x hx => ?_)
    rw [q_rchO _ (by omega) x hx, rch, if_neg c]
  · have c : p % 2 = 0 := by
      cases e : decide (p % 2 = 0) with
      | false => exact absurd e c
      | true => exact of_decide_eq_true e
    simp only [forall_eq, fa_lit]
    rw [q_shr (by omega) (by omega)]
    refine h _ (Nat.lt_of_le_of_lt (Nat.div_le_self _ _) (by decide)) (fun x hx => ?_)
    rw [q_rchE _ (by omega) x hx, rch, if_pos c]
/-- the hits as the class has them -/
def ClsH (s : Nat → Nat) (hc hp : Nat → Int32) : Prop := CntOk s (prs (s 0) (s 3)) hc ∧ RowOk s (prs (s 0) (s 3)) vPl hp
theorem ClsH.cnt {s : Nat → Nat} {hc hp : Nat → Int32} (h : ClsH s hc hp) {y : Nat} (hy : y < 16) : hc y = nI (hs s y).length := h.1 y hy
theorem ClsH.at {s : Nat → Nat} {hc hp : Nat → Int32} (h : ClsH s hc hp) {y i : Nat} {q : Nat × Nat} (hy : y < 16) (hq : (hs s y)[i]? = some q) : hp (12 * y + i) = nI (8 * q.1 + q.2) := h.2 y hy i q hq
theorem hs_bd {s : Nat → Nat} (H : Hok s) {y i : Nat} {q : Nat × Nat} (hq : (hs s y)[i]? = some q) : i < 12 ∧ q.1 < 12 ∧ q.2 < 8 ∧ i < (hs s y).length := by
  have h1 := hs_mem (List.mem_of_getElem? hq)
  have h2 := (List.getElem?_eq_some_iff.mp hq).1
  have h3 := hs_len12 H y
  obtain ⟨a0, a1, a2, a3, -⟩ := H
  omega
theorem hs_get {s : Nat → Nat} {y i : Nat} (hi : i < (hs s y).length) : ∃ q, (hs s y)[i]? = some q := ⟨_, List.getElem?_eq_getElem hi⟩
theorem s_pass {s : Nat → Nat} (H : Hok s) {hc hp : Nat → Int32} (h : ClsH s hc hp) {y i : Nat} {q : Nat × Nat} (hy : y < 16) (hq : (hs s y)[i]? = some q) {post : Int32 → Unit → Prop} (k : post (nI q.1) ()) : wp_X1_passOf (nI y) (nI i) hp post := by
  obtain ⟨b1, b2, b3, b4⟩ := hs_bd H hq
  refine s_passOf hy b1 (by omega) (h.at hy hq) ?_
  rw [show (8 * q.1 + q.2) / 8 = q.1 by omega]; exact k
theorem s_nozzle {s : Nat → Nat} (H : Hok s) {hc hp : Nat → Int32} (h : ClsH s hc hp) {y i : Nat} {q : Nat × Nat} (hy : y < 16) (hq : (hs s y)[i]? = some q) {post : Int32 → Unit → Prop} (k : post (nI q.2) ()) : wp_X1_nozzleOf (nI y) (nI i) hp post := by
  obtain ⟨b1, b2, b3, b4⟩ := hs_bd H hq
  refine s_nozzleOf hy b1 (by omega) (h.at hy hq) ?_
  rw [show (8 * q.1 + q.2) % 8 = q.2 by omega]; exact k
/-- which hits can print -/
def CcOk (s : Nat → Nat) (al : Nat → Nat → Bool) (y n : Nat) (cc : Nat → Int32) : Prop := ∀ (i : Nat) (q : Nat × Nat), i < n → (hs s y)[i]? = some q → ∃ a, a < 256 ∧ cc i = nI a ∧ ∀ x, x < 8 → a.testBit x = can s al q x
def CnOk (s : Nat → Nat) (al : Nat → Nat → Bool) (y n : Nat) (cn : Nat → Int32) : Prop := ∀ x, x < 8 → cn x = nI (((hs s y).take n).countP (fun q => can s al q x))
theorem cnt_take {L : List (Nat × Nat)} {n : Nat} {q : Nat × Nat} (h : L[n]? = some q) (P : Nat × Nat → Bool) : (L.take (n + 1)).countP P = (L.take n).countP P + (if P q = true then 1 else 0) := by
  rw [List.take_add_one, h, List.countP_append]
  simp [List.countP_cons]
theorem s_look_in {s : Nat → Nat} {al : Nat → Nat → Bool} {y n : Nat} {q : Nat × Nat} {head living hc hp cc : Nat → Int32} {x1 : Int32} {a : Nat} (hn : n < 12) (hq : (hs s y)[n]? = some q) (ha : a < 256) (hcc : cc n = nI a) (hbit : ∀ x, x < 8 → a.testBit x = can s al q x) {post : ((Nat → Int32) × (Nat → Int32)) → Prop} {Ke : (Nat → Int32) → Prop} (hK : ∀ cn, CnOk s al y (n + 1) cn → Ke cn) :
    ∀ (m x : Nat) (cn : Nat → Int32), x ≤ 8 → 8 - x < m → (∀ k, k < x → cn k = nI (((hs s y).take (n + 1)).countP (fun q => can s al q k))) → (∀ k, x ≤ k → k < 8 → cn k = nI (((hs s y).take n).countP (fun q => can s al q k))) → wq_X1_lookAtHits_62 head living hc hp x1 (nI n) cc post Ke m (nI x) cn := by
  intro m
  induction m with
  | zero => intro x cn g1 g2; omega
  | succ m ih =>
    intro x cn g1 g2 h1 h2
    unfold wq_X1_lookAtHits_62
    simp (disch := omega) only [fa_lit, nI_leI]
    refine ⟨fun c => hK cn (fun k hk => h1 k (by omega)), fun c => ?_⟩
    have hx : x < 8 := by omega
    simp (disch := omega) only [q_in, nI_clamp, true_and, forall_eq, hcc, h2 x (Nat.le_refl _) hx, q_and1, nI_add]
    rw [q_shr (by omega) (by omega), q_and1, nI_add]
    refine ih (x + 1) _ (by omega) (by omega) (fun k hk => ?_) (fun k hk1 hk2 => ?_)
    · by_cases e : k = x
      · subst e
        rw [pk_us, cnt_take hq]
        congr 2
        have hb := hbit k hx
        rw [q_tb] at hb
        rw [← hb]
        have := Nat.mod_two_eq_zero_or_one (a / 2 ^ k)
        rcases this with g | g <;> simp [g]
      · rw [pk_un e]; exact h1 k (by omega)
    · rw [pk_un (by omega)]; exact h2 k (by omega) hk2
theorem s_lookAtHits {s : Nat → Nat} {al : Nat → Nat → Bool} {y : Nat} {head living hc hp cc0 cn0 : Nat → Int32} (hh : Hd s head) (hL : LivOk al living) (hH : ClsH s hc hp) (hy : y < 16) {post : ((Nat → Int32) × (Nat → Int32)) → Prop}
    (h : ∀ cc cn, CcOk s al y (hs s y).length cc → CnOk s al y (hs s y).length cn → post (cc, cn)) : wp_X1_lookAtHits (nI y) head living hc hp cc0 cn0 post := by
  have H := hh.1
  have hl12 := hs_len12 H y
  unfold wp_X1_lookAtHits
  refine s_fill (by omega) (fun d hd _ => ?_)
  have key : ∀ (m n : Nat) (cc cn : Nat → Int32), n ≤ (hs s y).length → (hs s y).length - n < m → CcOk s al y n cc → CnOk s al y n cn → wq_X1_lookAtHits_10 head living hc hp (nI y) post (fun d49 d50 => post (d49, d50)) m (nI n) cc cn := by
    intro m
    induction m with
    | zero => intro n cc cn g1 g2; omega
    | succ m ih =>
      intro n cc cn g1 g2 hC hN
      unfold wq_X1_lookAtHits_10
      refine ⟨vp_in_nI hy (by omega), ?_⟩
      simp (disch := omega) only [nI_clamp, hH.cnt hy, nI_leI]
      refine ⟨fun c => ?_, fun c => ?_⟩
      · have : n = (hs s y).length := by omega
        subst this
        exact h _ _ hC hN
      · obtain ⟨q, hq⟩ := hs_get (s := s) (y := y) (i := n) (by omega)
        obtain ⟨b1, b2, b3, b4⟩ := hs_bd H hq
        have join : ∀ a, a < 256 → (∀ x, x < 8 → a.testBit x = can s al q x) → wq_X1_lookAtHits_58 head living hc hp (nI y) post (wq_X1_lookAtHits_10 head living hc hp (nI y) post (fun d49 d50 => post (d49, d50)) m) (fun d49 d50 => post (d49, d50)) (nI n) (nI n) (nI a) cc cn := by
          intro a ha hbit
          unfold wq_X1_lookAtHits_58
          refine ⟨vp_in_nI b1 (by omega), 9, ?_⟩
          rw [nI_clamp (by omega)]
          refine s_look_in (al := al) b1 hq ha pk_us hbit (fun cn' hcn' => ?_) 9 0 cn (by omega) (by omega) (fun k hk => by omega) (fun k _ hk => hN k hk)
          intro v hv
          rw [hv, nI_1]
          refine ih (n + 1) _ cn' (by omega) (by omega) (fun i r hi hr => ?_) hcn'
          by_cases e : i = n
          · subst e
            rw [hq] at hr
            cases hr
            exact ⟨a, ha, pk_us, hbit⟩
          · rw [pk_un e]; exact hC i r (by omega) hr
        refine s_pass H hH hy hq (s_nozzle H hH hy hq ?_)
        obtain ⟨lv, l1, l2, l3⟩ := hL q.2 b3
        refine s_isLiving b3 (by omega) l2 (by omega) ?_
        rw [l3 q.1 b2, b01_0]
        refine ⟨fun c1 => ?_, fun c1 => ?_⟩
        · refine join 0 (by omega) (fun x hx => ?_)
          rw [can, c1, Nat.zero_testBit, Bool.false_and]
        · refine s_columnsReached hh (fun a ha hbit => join a ha (fun x hx => ?_))
          have c1 : al q.1 q.2 = true := by cases e : al q.1 q.2 with
            | false => exact absurd e c1
            | true => rfl
          rw [hbit x hx, can, c1, Bool.true_and]
  refine ⟨13, key 13 0 cc0 d (by omega) (by omega) (fun i q hi => by omega) (fun x hx => ?_)⟩
  rw [hd x hx]; rfl
theorem s_maskNumber {s : Nat → Nat} {head : Nat → Int32} (hh : Hd s head) {y x : Nat} (hx : x < 8) {post : Int32 → Unit → Prop} (h : post (nI (mkn s y x)) ()) : wp_X1_maskNumber (nI y) (nI x) head post := by
  obtain ⟨a0, a1, a2, a3, a4, a5, a6, a7, a8⟩ := hh.1
  unfold wp_X1_maskNumber
  rw [hh.at 8 (by omega) (by omega)]
  simp (disch := omega) only [fa_lit, nI_eq, forall_eq]
  rw [q_shr (k := 1) (by omega) (by omega), nI_add, nI_add]
  unfold mkn at h
  refine ⟨fun c => ?_, fun c => ⟨fun c1 => ?_, fun c1 => ⟨fun c2 => ?_, fun c2 => ?_⟩⟩⟩
  · rw [if_pos c] at h; exact h
  · rw [if_neg c, if_pos c1] at h; exact h
  · rw [if_neg c, if_neg c1, if_pos c2] at h; exact h
  · rw [if_neg c, if_neg c1, if_neg c2] at h; exact h
theorem mkn_lt {s : Nat → Nat} {y x : Nat} (hy : y < 16) (hx : x < 8) : mkn s y x < 24 := by
  unfold mkn
  by_cases c : s 8 = 0
  · rw [if_pos c]; omega
  · rw [if_neg c]
    by_cases c1 : s 8 = 1
    · rw [if_pos c1]; omega
    · rw [if_neg c1]
      by_cases c2 : s 8 = 2
      · rw [if_pos c2]; omega
      · rw [if_neg c2]; omega
/-- the hit that is wanted -/
def wnt (s : Nat → Nat) (d y x : Nat) : Option Nat := if (hs s y).length ≠ 0 ∧ d.testBit x = true then some (wn s y x) else none
theorem s_wantedHit {s : Nat → Nat} {head pic hc hp : Nat → Int32} (hh : Hd s head) (hH : ClsH s hc hp) {d y x : Nat} (hy : y < 16) (hx : x < 8) (hpic : pic y = nI d) (hd : d < 256) {post : Int32 → Unit → Prop} (h : post (oI (wnt s d y x)) ()) : wp_X1_wantedHit (nI y) (nI x) pic head hc post := by
  have hl12 := hs_len12 hh.1 y
  have hm := mkn_lt (s := s) hy hx
  unfold wp_X1_wantedHit
  refine ⟨vp_in_nI hy (by omega), ?_⟩
  simp (disch := omega) only [forall_eq, nI_clamp, hH.cnt hy, fa_lit, nI_leI]
  unfold wnt at h
  refine ⟨fun c => ?_, fun c => ?_⟩
  · rw [if_neg (by intro q; omega)] at h; exact h
  · refine s_isDot hy (by omega) hpic (by omega) ?_
    rw [show (nI 0 : Int32) = 0 from rfl, b01_0]
    refine ⟨fun c1 => ?_, fun c1 => ?_⟩
    · rw [if_neg (by intro q; rw [c1] at q; exact absurd q.2 (by decide))] at h; exact h
    · have c1 : d.testBit x = true := by cases e : d.testBit x with
        | false => exact absurd e c1
        | true => rfl
      rw [if_pos ⟨by omega, c1⟩] at h
      refine s_maskNumber hh hx ?_
      refine ⟨nI_ne0 (by omega) (by omega), ?_⟩
      rw [pk_rem (by omega) (by omega) (by omega)]
      exact h
theorem wn_lt {s : Nat → Nat} {y x : Nat} (h : 0 < (hs s y).length) : wn s y x < (hs s y).length := Nat.mod_lt _ h
/-- the first hit that may, from the wanted one on -/
theorem s_firstHit {s : Nat → Nat} {al : Nat → Nat → Bool} {head hc hp dp cc : Nat → Int32} (hh : Hd s head) (hH : ClsH s hc hp) {st : Nat → PSt} {y x : Nat} (hy : y < 16) (hx : x < 8) (hC : CcOk s al y (hs s y).length cc) (hD : DpOk s st dp) (hB : Bnd s st) {w : Int32} (hw : 0 < (hs s y).length → w = nI (wn s y x)) {post : Int32 → Unit → Prop} (h : post (oI (fst1 s al y x (st y).1)) ()) : wp_X1_firstHitThatMay (nI y) (nI x) w head hc hp dp cc post := by
  have H := hh.1
  obtain ⟨a0, a1, a2, a3, a4, a5, a6, a7, a8⟩ := id H
  have hl12 := hs_len12 H y
  unfold wp_X1_firstHitThatMay
  refine ⟨vp_in_nI hy (by omega), ?_⟩
  simp (disch := omega) only [forall_eq, nI_clamp, hH.cnt hy]
  have key : ∀ (m r : Nat), r ≤ (hs s y).length → r < m → post (oI (fmf (hs s y).length (wn s y x) (may s al y x (st y).1) r)) () → wq_X1_firstHitThatMay_11 head hc hp dp cc (nI y) (nI x) w (nI (hs s y).length) post (post (-1) ()) m (nI ((hs s y).length - r)) := by
    intro m
    induction m with
    | zero => intro r g1 g2; omega
    | succ m ih =>
      intro r g1 g2 hp0
      unfold wq_X1_firstHitThatMay_11
      cases r with
      | zero =>
        refine ⟨fun _ => hp0, fun c => absurd (Int32.le_refl _) c⟩
      | succ r =>
        have hpos : 0 < (hs s y).length := by omega
        have hwl := wn_lt (s := s) (x := x) hpos
        simp (disch := omega) only [nI_leI, forall_eq, hw hpos, nI_add]
        refine ⟨fun c => absurd c (by omega), fun _ => ?_⟩
        have e1 : (hs s y).length - (r + 1) + 1 = (hs s y).length - r := by omega
        have join : ∀ i, i = (wn s y x + ((hs s y).length - (r + 1))) % (hs s y).length → wq_X1_firstHitThatMay_41 head hc hp dp cc (nI y) (nI x) (nI (wn s y x)) (nI (hs s y).length) post (wq_X1_firstHitThatMay_11 head hc hp dp cc (nI y) (nI x) (nI (wn s y x)) (nI (hs s y).length) post (post (-1) ()) m) (post (-1) ()) (nI ((hs s y).length - (r + 1))) (nI i) := by
          intro i hi
          have hil : i < (hs s y).length := by rw [hi]; exact Nat.mod_lt _ hpos
          obtain ⟨q, hq⟩ := hs_get (s := s) (y := y) hil
          obtain ⟨b1, b2, b3, b4⟩ := hs_bd H hq
          obtain ⟨a, g3, g4, g5⟩ := hC i q hil hq
          have hcni : cni s al y i x = a.testBit x := by rw [cni, hq, g5 x hx]
          have hbd := hB y i
          unfold wq_X1_firstHitThatMay_41
          refine ⟨vp_in_nI (by omega) (by omega), ?_⟩
          simp (disch := omega) only [forall_eq, nI_clamp, g4, fa_lit]
          rw [q_shr (by omega) (by omega), q_and1, q_bit]
          have nx : fmf (hs s y).length (wn s y x) (may s al y x (st y).1) (r + 1) = (if may s al y x (st y).1 i = true then some i else fmf (hs s y).length (wn s y x) (may s al y x (st y).1) r) := by
            rw [fmf, ← hi]
          rw [nx] at hp0
          rw [hw hpos] at ih
          refine ⟨fun c1 => ?_, fun c1 => ?_⟩
          · unfold wq_X1_firstHitThatMay_63
            refine ⟨fun _ => ?_, fun q => absurd rfl q⟩
            rw [forall_eq, nI_1, e1]
            refine ih r (by omega) (by omega) ?_
            rw [if_neg (by intro q; simp only [may, Bool.and_eq_true] at q; rw [hcni] at q; exact c1 q.1)] at hp0
            exact hp0
          · unfold wq_X1_firstHitThatMay_63
            refine ⟨fun q => absurd q (by decide), fun _ => ?_⟩
            have hpi := hH.at hy hq
            rw [Nat.mul_comm] at hpi
            have hdi := hD.1 y hy i q hq
            simp (disch := omega) only [forall_eq, fa_lit, pk_mul, nI_add, q_in, nI_clamp, hpi, hdi, true_and, hh.at 5 (by omega) (by omega), nI_leI]
            refine ⟨fun c2 => ?_, fun c2 => ?_⟩
            · rw [e1]
              refine ih r (by omega) (by omega) ?_
              rw [if_neg (by intro q; simp only [may, Bool.and_eq_true, decide_eq_true_eq] at q; omega)] at hp0
              exact hp0
            · rw [if_pos (by simp only [may, Bool.and_eq_true, decide_eq_true_eq]; rw [hcni]; exact ⟨c1, by omega⟩)] at hp0
              exact hp0
        refine ⟨fun c => ?_, fun c => ?_⟩
        · rw [pk_sub (by omega)]
          refine join _ ?_
          rw [Nat.mod_eq_sub_mod (by omega), Nat.mod_eq_of_lt (by omega)]
        · refine join _ ?_
          rw [Nat.mod_eq_of_lt (by omega)]
  have := key ((hs s y).length + 1) (hs s y).length (Nat.le_refl _) (by omega) h
  rw [Nat.sub_self] at this
  exact ⟨_, this⟩
