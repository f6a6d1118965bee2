/-! the printing of a line, as a fold over its columns -/
def rch (s : Nat → Nat) (p x : Nat) : Bool := if p % 2 = 0 then decide (x < 8 - s 7) else decide (s 7 ≤ x)
def can (s : Nat → Nat) (al : Nat → Nat → Bool) (q : Nat × Nat) (x : Nat) : Bool := al q.1 q.2 && rch s q.1 x
def cni (s : Nat → Nat) (al : Nat → Nat → Bool) (y i x : Nat) : Bool := match (hs s y)[i]? with
  | some q => can s al q x
  | none => false
def cm (s : Nat → Nat) (al : Nat → Nat → Bool) (y x : Nat) : Nat := (hs s y).countP (fun q => can s al q x)
def mkn (s : Nat → Nat) (y x : Nat) : Nat := if s 8 = 0 then y + x else if s 8 = 1 then x else if s 8 = 2 then y else x / 2 + y
def wn (s : Nat → Nat) (y x : Nat) : Nat := mkn s y x % (hs s y).length
def fmf (len w : Nat) (P : Nat → Bool) : Nat → Option Nat
  | 0 => none
  | r + 1 => if P ((w + (len - (r + 1))) % len) = true then some ((w + (len - (r + 1))) % len) else fmf len w P r
/-- prints of each hit, the hit of each column, missed bits, missed, by another hit, by the wanted hit -/
abbrev PSt : Type := (Nat → Nat) × (Nat → Option Nat) × Nat × Nat × Nat × Nat
def ps0 : PSt := (fun _ => 0, fun _ => none, 0, 0, 0, 0)
def may (s : Nat → Nat) (al : Nat → Nat → Bool) (y x : Nat) (pr : Nat → Nat) (i : Nat) : Bool := cni s al y i x && decide (pr i < s 5)
def fst1 (s : Nat → Nat) (al : Nat → Nat → Bool) (y x : Nat) (pr : Nat → Nat) : Option Nat := fmf (hs s y).length (wn s y x) (may s al y x pr) (hs s y).length
def stp (s : Nat → Nat) (al : Nat → Nat → Bool) (y : Nat) (t : PSt) (x : Nat) : PSt := match fst1 s al y x t.1 with
  | some i => (va_up t.1 i (t.1 i + 1), va_up t.2.1 x (some i), t.2.2.1, t.2.2.2.1, if i = wn s y x then t.2.2.2.2.1 else t.2.2.2.2.1 + 1, if i = wn s y x then t.2.2.2.2.2 + 1 else t.2.2.2.2.2)
  | none => (t.1, t.2.1, t.2.2.1 ||| 2 ^ x, t.2.2.2.1 + 1, t.2.2.2.2.1, t.2.2.2.2.2)
def pf (s : Nat → Nat) (al : Nat → Nat → Bool) (y : Nat) (xs : List Nat) : PSt := xs.foldl (stp s al y) ps0
def ordk (s : Nat → Nat) (al : Nat → Nat → Bool) (d y n k : Nat) : List Nat := (List.range k).filter (fun x => d.testBit x && decide (cm s al y x = n))
def ordp (s : Nat → Nat) (al : Nat → Nat → Bool) (d y N : Nat) : List Nat := (List.range N).flatMap (fun n => ordk s al d y n 8)
def fin (s : Nat → Nat) (al : Nat → Nat → Bool) (d y : Nat) : PSt := pf s al y (ordp s al d y 13)
theorem fmf_lt {len w : Nat} {P : Nat → Bool} (h : 0 < len) : ∀ {r i : Nat}, fmf len w P r = some i → i < len ∧ P i = true := by
  intro r
  induction r with
  | zero => intro i h; cases h
  | succ r ih =>
    intro i hi
    unfold fmf at hi
    by_cases c : P ((w + (len - (r + 1))) % len) = true
    · rw [if_pos c] at hi
      have := Option.some.inj hi
      subst this
      exact ⟨Nat.mod_lt _ h, c⟩
    · rw [if_neg c] at hi
      exact ih hi
theorem fst1_spec {s : Nat → Nat} {al : Nat → Nat → Bool} {y x i : Nat} {pr : Nat → Nat} (h : fst1 s al y x pr = some i) : i < (hs s y).length ∧ cni s al y i x = true ∧ pr i < s 5 := by
  have h0 : 0 < (hs s y).length := by
    rcases Nat.eq_zero_or_pos (hs s y).length with e | e
    · unfold fst1 at h; rw [e] at h; cases h
    · exact e
  have := fmf_lt h0 h
  simp only [may, Bool.and_eq_true, decide_eq_true_eq] at this
  exact ⟨this.1, this.2.1, this.2.2⟩
/-- the first, the last pass that prints -/
def LastOf (L : List (Nat × Nat)) (pr : Nat → Nat) : Option Nat → Prop
  | none => ∀ (i : Nat) (q : Nat × Nat), L[i]? = some q → pr i = 0
  | some p => (∃ (i : Nat) (q : Nat × Nat), L[i]? = some q ∧ q.1 = p ∧ 0 < pr i) ∧ ∀ (i : Nat) (q : Nat × Nat), L[i]? = some q → 0 < pr i → q.1 ≤ p
def FirstOf (L : List (Nat × Nat)) (pr : Nat → Nat) : Option Nat → Prop
  | none => ∀ (i : Nat) (q : Nat × Nat), L[i]? = some q → pr i = 0
  | some p => (∃ (i : Nat) (q : Nat × Nat), L[i]? = some q ∧ q.1 = p ∧ 0 < pr i) ∧ ∀ (i : Nat) (q : Nat × Nat), L[i]? = some q → 0 < pr i → p ≤ q.1
theorem last_uniq {L : List (Nat × Nat)} {pr : Nat → Nat} {a b : Option Nat} (ha : LastOf L pr a) (hb : LastOf L pr b) : a = b := by
  cases a with
  | none => cases b with
    | none => rfl
    | some b => obtain ⟨i, q, h1, h2, h3⟩ := hb.1; have := ha i q h1; omega
  | some a => cases b with
    | none => obtain ⟨i, q, h1, h2, h3⟩ := ha.1; have := hb i q h1; omega
    | some b =>
      obtain ⟨i, q, h1, h2, h3⟩ := ha.1
      obtain ⟨i', q', h1', h2', h3'⟩ := hb.1
      have := ha.2 i' q' h1' h3'
      have := hb.2 i q h1 h3
      congr 1; omega
theorem first_uniq {L : List (Nat × Nat)} {pr : Nat → Nat} {a b : Option Nat} (ha : FirstOf L pr a) (hb : FirstOf L pr b) : a = b := by
  cases a with
  | none => cases b with
    | none => rfl
    | some b => obtain ⟨i, q, h1, h2, h3⟩ := hb.1; have := ha i q h1; omega
  | some a => cases b with
    | none => obtain ⟨i, q, h1, h2, h3⟩ := ha.1; have := hb i q h1; omega
    | some b =>
      obtain ⟨i, q, h1, h2, h3⟩ := ha.1
      obtain ⟨i', q', h1', h2', h3'⟩ := hb.1
      have := ha.2 i' q' h1' h3'
      have := hb.2 i q h1 h3
      congr 1; omega
theorem last_add {L : List (Nat × Nat)} {pr : Nat → Nat} {b : Option Nat} (hb : LastOf L pr b) {i : Nat} {q : Nat × Nat} (hi : L[i]? = some q) (v : Nat) (hv : 0 < v) : LastOf L (va_up pr i v) (some (match b with | none => q.1 | some p => if p < q.1 then q.1 else p)) := by
  have hh : ∀ (k : Nat) (r : Nat × Nat), L[k]? = some r → 0 < va_up pr i v k → k = i ∧ r = q ∨ 0 < pr k := by
    intro k r hk h0
    by_cases e : k = i
    · subst e; rw [hi] at hk; exact Or.inl ⟨rfl, (Option.some.inj hk).symm⟩
    · rw [va_up_ne _ _ e] at h0; exact Or.inr h0
  cases b with
  | none =>
    refine ⟨⟨i, q, hi, rfl, by rw [va_up_self]; exact hv⟩, fun k r hk h0 => ?_⟩
    rcases hh k r hk h0 with ⟨_, h⟩ | h
    · rw [h]; exact Nat.le_refl _
    · have := hb k r hk; omega
  | some p =>
    show LastOf L _ (some (if p < q.1 then q.1 else p))
    by_cases c : p < q.1
    · rw [if_pos c]
      refine ⟨⟨i, q, hi, rfl, by rw [va_up_self]; exact hv⟩, fun k r hk h0 => ?_⟩
      rcases hh k r hk h0 with ⟨_, h⟩ | h
      · rw [h]; exact Nat.le_refl _
      · have := hb.2 k r hk h; omega
    · rw [if_neg c]
      obtain ⟨i', q', h1', h2', h3'⟩ := hb.1
      refine ⟨⟨i', q', h1', h2', ?_⟩, fun k r hk h0 => ?_⟩
      · by_cases e : i' = i
        · subst e; rw [va_up_self]; exact hv
        · rw [va_up_ne _ _ e]; exact h3'
      · rcases hh k r hk h0 with ⟨_, h⟩ | h
        · rw [h]; omega
        · exact hb.2 k r hk h
theorem first_add {L : List (Nat × Nat)} {pr : Nat → Nat} {b : Option Nat} (hb : FirstOf L pr b) {i : Nat} {q : Nat × Nat} (hi : L[i]? = some q) (v : Nat) (hv : 0 < v) : FirstOf L (va_up pr i v) (some (match b with | none => q.1 | some p => if q.1 < p then q.1 else p)) := by
  have hh : ∀ (k : Nat) (r : Nat × Nat), L[k]? = some r → 0 < va_up pr i v k → k = i ∧ r = q ∨ 0 < pr k := by
    intro k r hk h0
    by_cases e : k = i
    · subst e; rw [hi] at hk; exact Or.inl ⟨rfl, (Option.some.inj hk).symm⟩
    · rw [va_up_ne _ _ e] at h0; exact Or.inr h0
  cases b with
  | none =>
    refine ⟨⟨i, q, hi, rfl, by rw [va_up_self]; exact hv⟩, fun k r hk h0 => ?_⟩
    rcases hh k r hk h0 with ⟨_, h⟩ | h
    · rw [h]; exact Nat.le_refl _
    · have := hb k r hk; omega
  | some p =>
    show FirstOf L _ (some (if q.1 < p then q.1 else p))
    by_cases c : q.1 < p
    · rw [if_pos c]
      refine ⟨⟨i, q, hi, rfl, by rw [va_up_self]; exact hv⟩, fun k r hk h0 => ?_⟩
      rcases hh k r hk h0 with ⟨_, h⟩ | h
      · rw [h]; exact Nat.le_refl _
      · have := hb.2 k r hk h; omega
    · rw [if_neg c]
      obtain ⟨i', q', h1', h2', h3'⟩ := hb.1
      refine ⟨⟨i', q', h1', h2', ?_⟩, fun k r hk h0 => ?_⟩
      · by_cases e : i' = i
        · subst e; rw [va_up_self]; exact hv
        · rw [va_up_ne _ _ e]; exact h3'
      · rcases hh k r hk h0 with ⟨_, h⟩ | h
        · rw [h]; omega
        · exact hb.2 k r hk h
/-- what each line's printing is so far; drops at the places of the hits -/
def DpOk (s : Nat → Nat) (st : Nat → PSt) (A : Nat → Int32) : Prop := (∀ y, y < 16 → ∀ (i : Nat) (q : Nat × Nat), (hs s y)[i]? = some q → A (8 * q.1 + q.2) = nI ((st y).1 i)) ∧ ∀ k, k < 96 → (∀ y, y < 16 → ∀ q ∈ hs s y, 8 * q.1 + q.2 ≠ k) → A k = nI 0
theorem hs_apart {s : Nat → Nat} (H : Hok s) {y z i k : Nat} {q r : Nat × Nat} (hq : (hs s y)[i]? = some q) (hr : (hs s z)[k]? = some r) (e : 8 * q.1 + q.2 = 8 * r.1 + r.2) : y = z ∧ i = k := by
  have mq := hs_mem (List.mem_of_getElem? hq)
  have mr := hs_mem (List.mem_of_getElem? hr)
  have h8 := H.1.2
  have e1 : q.1 = r.1 := by omega
  have e2 : q.2 = r.2 := by omega
  have eyz : y = z := by have h1 := mq.2.2; have h2 := mr.2.2; rw [e1, e2] at h1; omega
  subst eyz
  refine ⟨rfl, ?_⟩
  obtain ⟨hi, hqi⟩ := List.getElem?_eq_some_iff.mp hq
  obtain ⟨hk, hrk⟩ := List.getElem?_eq_some_iff.mp hr
  have hinc := List.pairwise_iff_getElem.mp (hs_inc H y)
  rcases Nat.lt_trichotomy i k with h | h | h
  · have := hinc i k hi hk h; rw [hqi, hrk] at this; omega
  · exact h
  · have := hinc k i hk hi h; rw [hqi, hrk] at this; omega
theorem dp_add {s : Nat → Nat} (H : Hok s) {st : Nat → PSt} {A : Nat → Int32} (h : DpOk s st A) {y i : Nat} {q : Nat × Nat} (hy : y < 16) (hq : (hs s y)[i]? = some q) {t : PSt} {v : Nat} (ht : t.1 = va_up (st y).1 i v) : DpOk s (va_up st y t) (upd A (8 * q.1 + q.2) (nI v)) := by
  constructor
  · intro z hz k r hr
    by_cases e : 8 * r.1 + r.2 = 8 * q.1 + q.2
    · obtain ⟨e1, e2⟩ := hs_apart H hr hq e
      subst e1; subst e2
      rw [e, pk_us, va_up_self, ht, va_up_self]
    · rw [pk_un e, h.1 z hz k r hr]
      by_cases ez : z = y
      · subst ez
        rw [va_up_self, ht]
        by_cases ek : k = i
        · subst ek; rw [hq] at hr; cases hr; exact absurd rfl e
        · rw [va_up_ne _ _ ek]
      · rw [va_up_ne _ _ ez]
  · intro k hk hno
    rw [pk_un (fun e => hno y hy q (List.mem_of_getElem? hq) e.symm)]
    exact h.2 k hk hno
theorem dp_keep {s : Nat → Nat} {st : Nat → PSt} {A : Nat → Int32} (h : DpOk s st A) {y : Nat} {t : PSt} (ht : t.1 = (st y).1) : DpOk s (va_up st y t) A := by
  refine ⟨fun z hz k r hr => ?_, h.2⟩
  rw [h.1 z hz k r hr]
  by_cases ez : z = y
  · subst ez; rw [va_up_self, ht]
  · rw [va_up_ne _ _ ez]
/-- sums over the lines -/
def sm16 (f : PSt → Nat) (st : Nat → PSt) : Nat := fb_sm (fun y => f (st y)) 16
theorem sm16_up (f : PSt → Nat) (st : Nat → PSt) {y : Nat} (hy : y < 16) (t : PSt) (d : Nat) (h : f t = f (st y) + d) : sm16 f (va_up st y t) = sm16 f st + d := by
  have h1 := fb_sm_upd (fun y => f (st y)) (f t) (i := y) (n := 16) hy
  have e : sm16 f (va_up st y t) = fb_sm (fun k => if k = y then f t else f (st k)) 16 := by
    unfold sm16
    congr 1
    funext k
    by_cases ek : k = y
    · subst ek; rw [va_up_self, if_pos rfl]
    · rw [va_up_ne _ _ ek, if_neg ek]
  rw [e]
  unfold sm16
  omega
theorem sm16_eq (f : PSt → Nat) (st : Nat → PSt) {y : Nat} (hy : y < 16) (t : PSt) (h : f t = f (st y)) : sm16 f (va_up st y t) = sm16 f st := sm16_up f st hy t 0 h
/-- the class's rows -/
def ClsP (s : Nat → Nat) (st : Nat → PSt) (str : Int32) (ph md fp lp dp : Nat → Int32) : Prop :=
  str = nI (sm16 (fun t => t.2.2.2.2.1) st) ∧ (∀ y, y < 16 → ∀ x, x < 8 → ph (8 * y + x) = oI ((st y).2.1 x)) ∧ (∀ y, y < 16 → md y = nI (st y).2.2.1) ∧ (∀ y, y < 16 → ∃ b, FirstOf (hs s y) (st y).1 b ∧ fp y = oI b) ∧ (∀ y, y < 16 → ∃ b, LastOf (hs s y) (st y).1 b ∧ lp y = oI b) ∧ DpOk s st dp
def Bnd (s : Nat → Nat) (st : Nat → PSt) : Prop := ∀ y i, (st y).1 i ≤ s 5
theorem stp_bnd {s : Nat → Nat} {al : Nat → Nat → Bool} {y x : Nat} {t : PSt} (h : ∀ i, t.1 i ≤ s 5) : ∀ i, (stp s al y t x).1 i ≤ s 5 := by
  intro i
  unfold stp
  cases hf : fst1 s al y x t.1 with
  | none => exact h i
  | some k =>
    show va_up t.1 k (t.1 k + 1) i ≤ s 5
    by_cases e : i = k
    · subst e; rw [va_up_self]; have := (fst1_spec hf).2.2; omega
    · rw [va_up_ne _ _ e]; exact h i
theorem bnd_up {s : Nat → Nat} {st : Nat → PSt} (h : Bnd s st) {y : Nat} {t : PSt} (ht : ∀ i, t.1 i ≤ s 5) : Bnd s (va_up st y t) := by
  intro z i
  by_cases e : z = y
  · subst e; rw [va_up_self]; exact ht i
  · rw [va_up_ne _ _ e]; exact h z i
