/-! the hits of the lines: settings s (0 nozzles, 1 space, 2 feed, 3 passes, 4 the amount of start, 5 cap, 6 rest, 7 edge, 8 mask) -/
def hv (s : Nat → Nat) (k : Nat) : Int32 := if k = 4 then -nI (s 4) else nI (s k)
def Hok (s : Nat → Nat) : Prop := (1 ≤ s 0 ∧ s 0 ≤ 8) ∧ (1 ≤ s 1 ∧ s 1 ≤ 5) ∧ (1 ≤ s 2 ∧ s 2 ≤ 12) ∧ (1 ≤ s 3 ∧ s 3 ≤ 12) ∧ s 4 ≤ 20 ∧ (1 ≤ s 5 ∧ s 5 ≤ 8) ∧ (1 ≤ s 6 ∧ s 6 ≤ 6) ∧ s 7 ≤ 3 ∧ s 8 ≤ 3
def Hd (s : Nat → Nat) (h : Nat → Int32) : Prop := Hok s ∧ ∀ k, k < 9 → h k = hv s k
theorem Hd.at {s : Nat → Nat} {h : Nat → Int32} (H : Hd s h) (k : Nat) (hk : k < 9) (h4 : k ≠ 4) : h k = nI (s k) := by rw [H.2 k hk, hv, if_neg h4]
theorem Hd.four {s : Nat → Nat} {h : Nat → Int32} (H : Hd s h) : h 4 = -nI (s 4) := by rw [H.2 4 (by omega), hv, if_pos rfl]
def prs (nz p : Nat) : List (Nat × Nat) := (List.range p).flatMap (fun a => (List.range nz).map (fun j => (a, j)))
def pre (nz p j : Nat) : List (Nat × Nat) := prs nz p ++ (List.range j).map (fun j => (p, j))
def onl (s : Nat → Nat) (y : Nat) (q : Nat × Nat) : Bool := decide (q.1 * s 2 + q.2 * s 1 = y + s 4)
def hs (s : Nat → Nat) (y : Nat) : List (Nat × Nat) := (prs (s 0) (s 3)).filter (onl s y)
theorem pre_0 (nz p : Nat) : pre nz p 0 = prs nz p := by simp [pre]
theorem pre_s (nz p j : Nat) : pre nz p (j + 1) = pre nz p j ++ [(p, j)] := by simp [pre, List.range_succ]
theorem pre_n (nz p : Nat) : pre nz p nz = prs nz (p + 1) := by simp [pre, prs, List.range_succ]
def lx (a b : Nat × Nat) : Prop := a.1 < b.1 ∨ (a.1 = b.1 ∧ a.2 < b.2)
theorem prs_mem {nz p : Nat} {q : Nat × Nat} (h : q ∈ prs nz p) : q.1 < p ∧ q.2 < nz := by
  simp only [prs, List.mem_flatMap, List.mem_range, List.mem_map] at h
  obtain ⟨a, ha, j, hj, rfl⟩ := h
  exact ⟨ha, hj⟩
theorem mem_prs {nz p a j : Nat} (ha : a < p) (hj : j < nz) : (a, j) ∈ prs nz p := by
  simp only [prs, List.mem_flatMap, List.mem_range, List.mem_map]
  exact ⟨a, ha, j, hj, rfl⟩
theorem pre_mem {nz p j : Nat} {q : Nat × Nat} (hj : j ≤ nz) (h : q ∈ pre nz p j) : q.1 < p + 1 ∧ q.2 < nz := by
  rcases List.mem_append.mp h with h | h
  · have := prs_mem h; omega
  · simp only [List.mem_map, List.mem_range] at h
    obtain ⟨a, ha, rfl⟩ := h
    show p < p + 1 ∧ a < nz
    omega
theorem row_lx (a n : Nat) : ((List.range n).map (fun j => (a, j))).Pairwise lx := by
  rw [List.pairwise_map]
  exact List.pairwise_lt_range.imp (fun h => Or.inr ⟨rfl, h⟩)
theorem prs_lx (nz p : Nat) : (prs nz p).Pairwise lx := by
  unfold prs
  rw [List.pairwise_flatMap]
  refine ⟨fun a _ => row_lx a nz, List.pairwise_lt_range.imp (fun {a b} h x hx y hy => ?_)⟩
  simp only [List.mem_map] at hx hy
  obtain ⟨_, _, rfl⟩ := hx
  obtain ⟨_, _, rfl⟩ := hy
  exact Or.inl h
theorem pre_lx (nz p j : Nat) : (pre nz p j).Pairwise lx := by
  unfold pre
  rw [List.pairwise_append]
  refine ⟨prs_lx nz p, row_lx p j, fun a ha b hb => ?_⟩
  simp only [List.mem_map] at hb
  obtain ⟨_, _, rfl⟩ := hb
  exact Or.inl (prs_mem ha).1
theorem fil_inc {s : Nat → Nat} (h1 : 1 ≤ s 1) {y : Nat} {L : List (Nat × Nat)} (hL : L.Pairwise lx) : (L.filter (onl s y)).Pairwise (fun a b => a.1 < b.1) := by
  have h2 := hL.filter (onl s y)
  refine List.Pairwise.imp_of_mem (fun {a b} ha hb h => ?_) h2
  rcases h with h | ⟨e, h⟩
  · exact h
  · have ga := (List.mem_filter.mp ha).2
    have gb := (List.mem_filter.mp hb).2
    simp only [onl, decide_eq_true_eq] at ga gb
    rw [e] at ga
    have : a.2 * s 1 < b.2 * s 1 := Nat.mul_lt_mul_of_pos_right h h1
    omega
theorem inc_len {L : List (Nat × Nat)} {n : Nat} (h : L.Pairwise (fun a b => a.1 < b.1)) (hb : ∀ q ∈ L, q.1 < n) : L.length ≤ n := by
  refine fb_holes n L.length (fun i => (L.getD i (0, 0)).1) (fun i hi => ?_) (fun i j hij hj => ?_)
  · show (L.getD i (0, 0)).1 < n
    rw [List.getD_eq_getElem?_getD, List.getElem?_eq_getElem hi]
    exact hb _ (List.getElem_mem hi)
  · show (L.getD i (0, 0)).1 ≠ (L.getD j (0, 0)).1
    rw [List.getD_eq_getElem?_getD, List.getD_eq_getElem?_getD, List.getElem?_eq_getElem hj, List.getElem?_eq_getElem (Nat.lt_trans hij hj)]
    exact Nat.ne_of_lt (List.pairwise_iff_getElem.mp h i j (Nat.lt_trans hij hj) hj hij)
theorem fil_len {s : Nat → Nat} (h1 : 1 ≤ s 1) {y n : Nat} {L : List (Nat × Nat)} (hL : L.Pairwise lx) (hb : ∀ q ∈ L, q.1 < n) : (L.filter (onl s y)).length ≤ n :=
  inc_len (fil_inc h1 hL) (fun q hq => hb q (List.mem_filter.mp hq).1)
theorem hs_inc {s : Nat → Nat} (H : Hok s) (y : Nat) : (hs s y).Pairwise (fun a b => a.1 < b.1) := fil_inc H.2.1.1 (prs_lx _ _)
theorem hs_len {s : Nat → Nat} (H : Hok s) (y : Nat) : (hs s y).length ≤ s 3 := fil_len H.2.1.1 (prs_lx _ _) (fun _ hq => (prs_mem hq).1)
theorem hs_len12 {s : Nat → Nat} (H : Hok s) (y : Nat) : (hs s y).length ≤ 12 := Nat.le_trans (hs_len H y) H.2.2.2.1.2
theorem hs_mem {s : Nat → Nat} {y : Nat} {q : Nat × Nat} (h : q ∈ hs s y) : q.1 < s 3 ∧ q.2 < s 0 ∧ q.1 * s 2 + q.2 * s 1 = y + s 4 := by
  have h2 := List.mem_filter.mp h
  have h3 := prs_mem h2.1
  have h4 := h2.2
  simp only [onl, decide_eq_true_eq] at h4
  exact ⟨h3.1, h3.2, h4⟩
/-- how many a line has; what stands in a row of 12 places a line -/
def CntOk (s : Nat → Nat) (L : List (Nat × Nat)) (hc : Nat → Int32) : Prop := ∀ y, y < 16 → hc y = nI (L.filter (onl s y)).length
def RowOk (s : Nat → Nat) (L : List (Nat × Nat)) (v : Nat × Nat → Int32) (A : Nat → Int32) : Prop := ∀ y, y < 16 → ∀ (i : Nat) (q : Nat × Nat), (L.filter (onl s y))[i]? = some q → A (12 * y + i) = v q
theorem fil_no {s : Nat → Nat} {y : Nat} {q : Nat × Nat} (L : List (Nat × Nat)) (h : onl s y q = false) : (L ++ [q]).filter (onl s y) = L.filter (onl s y) := by simp [List.filter_append, h]
theorem fil_yes {s : Nat → Nat} {y : Nat} {q : Nat × Nat} (L : List (Nat × Nat)) (h : onl s y q = true) : (L ++ [q]).filter (onl s y) = L.filter (onl s y) ++ [q] := by simp [List.filter_append, h]
theorem onl_one {s : Nat → Nat} {y z : Nat} {q : Nat × Nat} (h : onl s y q = true) (hz : z ≠ y) : onl s z q = false := by
  simp only [onl, decide_eq_true_eq] at h
  simp only [onl, decide_eq_false_iff_not]
  omega
theorem cnt_no {s : Nat → Nat} {L : List (Nat × Nat)} {hc : Nat → Int32} {q : Nat × Nat} (h : CntOk s L hc) (hq : ∀ y, y < 16 → onl s y q = false) : CntOk s (L ++ [q]) hc := fun y hy => by rw [fil_no L (hq y hy)]; exact h y hy
theorem row_no {s : Nat → Nat} {L : List (Nat × Nat)} {v : Nat × Nat → Int32} {A : Nat → Int32} {q : Nat × Nat} (h : RowOk s L v A) (hq : ∀ y, y < 16 → onl s y q = false) : RowOk s (L ++ [q]) v A := fun y hy i r hr => by rw [fil_no L (hq y hy)] at hr; exact h y hy i r hr
theorem cnt_yes {s : Nat → Nat} {L : List (Nat × Nat)} {hc : Nat → Int32} {q : Nat × Nat} {y : Nat} (h : CntOk s L hc) (hq : onl s y q = true) : CntOk s (L ++ [q]) (upd hc y (nI ((L.filter (onl s y)).length + 1))) := by
  intro z hz
  by_cases e : z = y
  · subst e; rw [pk_us, fil_yes L hq, List.length_append]; rfl
  · rw [pk_un e, fil_no L (onl_one hq e)]; exact h z hz
theorem row_yes {s : Nat → Nat} {L : List (Nat × Nat)} {v : Nat × Nat → Int32} {A : Nat → Int32} {q : Nat × Nat} {y : Nat} (h : RowOk s L v A) (hq : onl s y q = true) (hn : ∀ z, (L.filter (onl s z)).length ≤ 12) (hy12 : (L.filter (onl s y)).length < 12) : RowOk s (L ++ [q]) v (upd A (12 * y + (L.filter (onl s y)).length) (v q)) := by
  intro z hz i r hr
  by_cases e : z = y
  · subst e
    rw [fil_yes L hq] at hr
    by_cases hi : i < (L.filter (onl s z)).length
    · rw [List.getElem?_append_left hi] at hr
      rw [pk_un (by omega)]; exact h z hz i r hr
    · rw [List.getElem?_append_right (by omega)] at hr
      have h0 : i - (L.filter (onl s z)).length < 1 := (List.getElem?_eq_some_iff.mp hr).1
      have e2 : i = (L.filter (onl s z)).length := by omega
      rw [e2, Nat.sub_self] at hr
      have e3 : q = r := Option.some.inj hr
      rw [e2, pk_us, e3]
  · rw [fil_no L (onl_one hq e)] at hr
    have hi : i < (L.filter (onl s z)).length := (List.getElem?_eq_some_iff.mp hr).1
    have := hn z
    rw [pk_un (by omega)]; exact h z hz i r hr
/-- where a nozzle is in a pass -/
theorem q_line (st a b : Nat) : (-nI st + nI a) + nI b = nI (a + b) - nI st := by
  rw [Int32.add_assoc, nI_add, Int32.add_comm, ← Int32.sub_eq_add_neg]
theorem onl_of {s : Nat → Nat} {p j y : Nat} : onl s y (p, j) = true ↔ p * s 2 + j * s 1 = y + s 4 := by simp [onl]
theorem q_isLine (s : Nat → Nat) (p j : Nat) (hb : p * s 2 + j * s 1 < 2 ^ 30) (hs4 : s 4 ≤ 20) : ((0 : Int32) ≤ nI (p * s 2 + j * s 1) - nI (s 4) ∧ nI (p * s 2 + j * s 1) - nI (s 4) ≤ 15) ↔ ∃ y, y < 16 ∧ onl s y (p, j) = true := by
  constructor
  · rintro ⟨h1, h2⟩
    rcases Nat.lt_or_ge (p * s 2 + j * s 1) (s 4) with h | h
    · exact absurd h1 (Int32.not_le.mpr (pk_sneg (by omega) h))
    · rw [pk_sub h] at h2
      have := (nI_leI (b := 15) (by omega) (by omega)).mp h2
      exact ⟨p * s 2 + j * s 1 - s 4, by omega, onl_of.mpr (by omega)⟩
  · rintro ⟨y, hy, h⟩
    have h := onl_of.mp h
    rw [pk_sub (by omega), show p * s 2 + j * s 1 - s 4 = y by omega]
    exact ⟨nI_pos' (by omega), nI_le (b := 15) (by omega) (by omega)⟩
/-- layHits -/
def vPl (q : Nat × Nat) : Int32 := nI (8 * q.1 + q.2)
theorem bnd {s : Nat → Nat} (H : Hok s) {p j : Nat} (hp : p < 12) (hj : j < 8) : p * s 2 + j * s 1 < 2 ^ 30 := by
  have h1 : p * s 2 ≤ 12 * 12 := Nat.mul_le_mul (by omega) H.2.2.1.2
  have h2 : j * s 1 ≤ 8 * 5 := Nat.mul_le_mul (by omega) H.2.1.2
  omega
theorem s_lay_in {s : Nat → Nat} {head : Nat → Int32} (hh : Hd s head) {p : Nat} (hp : p < s 3) {post : ((Nat → Int32) × (Nat → Int32)) → Prop} {Ke : (Nat → Int32) → (Nat → Int32) → Prop} (hK : ∀ hc hp', CntOk s (prs (s 0) (p + 1)) hc → RowOk s (prs (s 0) (p + 1)) vPl hp' → Ke hc hp') :
    ∀ (m j : Nat) (hc hp' : Nat → Int32), j ≤ s 0 → s 0 - j < m → CntOk s (pre (s 0) p j) hc → RowOk s (pre (s 0) p j) vPl hp' → wq_X1_layHits_22 head (nI p) post Ke m (nI j) hc hp' := by
  have H := hh.1
  obtain ⟨a0, a1, a2, a3, a4, a5, a6, a7, a8⟩ := id H
  intro m
  induction m with
  | zero => intro j hc hp' h1 h2; omega
  | succ m ih =>
    intro j hc hp' h1 h2 hC hR
    unfold wq_X1_layHits_22
    rw [hh.at 0 (by omega) (by omega), hh.at 1 (by omega) (by omega), hh.at 2 (by omega) (by omega), hh.four]
    refine ⟨fun c => ?_, fun c => ?_⟩
    · have : j = s 0 := by have := (nI_leI (by omega) (by omega)).mp c; omega
      subst this
      rw [pre_n] at hC hR
      exact hK _ _ hC hR
    · have hj : j < s 0 := by
        rcases Nat.lt_or_ge j (s 0) with q | q
        · exact q
        · exact absurd (nI_le q (by omega)) c
      have hb := bnd H (p := p) (j := j) (by omega) (by omega)
      rw [forall_eq]
      rw [forall_eq]
      rw [forall_eq]
      rw [pk_mul, pk_mul, q_line]
      refine s_isLine ?_
      have hlen : ∀ z, ((pre (s 0) p j).filter (onl s z)).length ≤ 12 := fun z => fil_len a1.1 (pre_lx _ _ _) (fun q hq => by have := pre_mem h1 hq; omega)
      by_cases hl : ∃ y, y < 16 ∧ onl s y (p, j) = true
      · rw [decide_eq_true ((q_isLine s p j hb a4).mpr hl)]
        refine ⟨fun q => absurd q (by decide), fun _ => ?_⟩
        obtain ⟨y, hy, hon⟩ := hl
        have hyv := onl_of.mp hon
        rw [pk_sub (by omega), show p * s 2 + j * s 1 - s 4 = y by omega]
        have hl12 : ((pre (s 0) p j).filter (onl s y)).length < 12 := by
          have := fil_len (y := y) (n := 12) a1.1 (pre_lx (s 0) p (j + 1)) (fun q hq => by have := pre_mem (by omega) hq; omega)
          rw [pre_s, fil_yes _ hon, List.length_append] at this
          simp at this
          omega
        simp (disch := omega) only [q_in, nI_clamp, true_and, forall_eq, fa_lit, hC y hy, nI_leI, pk_mul, nI_add]
        refine ⟨fun q => absurd q (by omega), fun _ => ?_⟩
        refine ih (j + 1) _ _ (by omega) (by omega) ?_ ?_
        · rw [pre_s]; exact cnt_yes hC hon
        · rw [pre_s]
          have := row_yes hR hon hlen hl12
          rw [show vPl (p, j) = nI (p * 8 + j) by simp [vPl, Nat.mul_comm], Nat.mul_comm 12 y] at this
          exact this
      · rw [decide_eq_false (fun q => hl ((q_isLine s p j hb a4).mp q))]
        refine ⟨fun _ => ?_, fun q => absurd rfl q⟩
        rw [forall_eq, nI_1]
        have hq : ∀ y, y < 16 → onl s y (p, j) = false := fun y hy => by
          cases e : onl s y (p, j)
          · rfl
          · exact absurd ⟨y, hy, e⟩ hl
        refine ih (j + 1) _ _ (by omega) (by omega) ?_ ?_
        · rw [pre_s]; exact cnt_no hC hq
        · rw [pre_s]; exact row_no hR hq
theorem s_layHits {s : Nat → Nat} {head hc0 hp0 : Nat → Int32} (hh : Hd s head) {post : ((Nat → Int32) × (Nat → Int32)) → Prop} (h : ∀ hc hp, CntOk s (prs (s 0) (s 3)) hc → RowOk s (prs (s 0) (s 3)) vPl hp → post (hc, hp)) : wp_X1_layHits head hc0 hp0 post := by
  have H := hh.1
  obtain ⟨a0, a1, a2, a3, a4, a5, a6, a7, a8⟩ := id H
  unfold wp_X1_layHits
  refine s_fill (by omega) (fun d hd _ => ?_)
  have key : ∀ (m p : Nat) (hc hp : Nat → Int32), p ≤ s 3 → s 3 - p < m → CntOk s (prs (s 0) p) hc → RowOk s (prs (s 0) p) vPl hp → wq_X1_layHits_10 head post (fun d83 d84 => post (d83, d84)) m (nI p) hc hp := by
    intro m
    induction m with
    | zero => intro p hc hp h1 h2; omega
    | succ m ih =>
      intro p hc hp h1 h2 hC hR
      unfold wq_X1_layHits_10
      rw [hh.at 3 (by omega) (by omega)]
      refine ⟨fun c => ?_, fun c => ?_⟩
      · have : p = s 3 := by have := (nI_leI (by omega) (by omega)).mp c; omega
        subst this
        exact h _ _ hC hR
      · have hp3 : p < s 3 := by
          rcases Nat.lt_or_ge p (s 3) with q | q
          · exact q
          · exact absurd (nI_le q (by omega)) c
        refine ⟨s 0 + 1, s_lay_in hh hp3 (fun hc' hp' hC' hR' => ?_) (s 0 + 1) 0 hc hp (by omega) (by omega) (by rw [pre_0]; exact hC) (by rw [pre_0]; exact hR)⟩
        intro v hv
        rw [hv, nI_1]
        exact ih (p + 1) hc' hp' (by omega) (by omega) hC' hR'
  refine ⟨s 3 + 1, key (s 3 + 1) 0 d hp0 (by omega) (by omega) (fun y hy => ?_) (fun y hy i q hq => ?_)⟩
  · rw [hd y hy]; rfl
  · simp [prs] at hq
