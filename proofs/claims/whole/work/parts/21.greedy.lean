/-! how many of a line are missed: fewest hits first is as good as any way -/
def RA (s : Nat → Nat) (al : Nat → Nat → Bool) (y i : Nat) : Bool := match (hs s y)[i]? with
  | some q => al q.1 q.2 && decide (q.1 % 2 = 0)
  | none => false
def LA (s : Nat → Nat) (al : Nat → Nat → Bool) (y i : Nat) : Bool := match (hs s y)[i]? with
  | some q => al q.1 q.2 && decide (¬ q.1 % 2 = 0)
  | none => false
def nR (s : Nat → Nat) (al : Nat → Nat → Bool) (y : Nat) : Nat := fb_ct (RA s al y) (hs s y).length
def nL (s : Nat → Nat) (al : Nat → Nat → Bool) (y : Nat) : Nat := fb_ct (LA s al y) (hs s y).length
theorem ra_la {s : Nat → Nat} {al : Nat → Nat → Bool} {y i : Nat} : ¬ (RA s al y i = true ∧ LA s al y i = true) := by
  unfold RA LA
  cases (hs s y)[i]? with
  | none => simp
  | some q => simp only [Bool.and_eq_true, decide_eq_true_eq]; intro h; exact h.2.2 h.1.2
theorem cni_eq (s : Nat → Nat) (al : Nat → Nat → Bool) (y i x : Nat) : cni s al y i x = ((RA s al y i && decide (x < 8 - s 7)) || (LA s al y i && decide (s 7 ≤ x))) := by
  unfold cni RA LA can rch
  cases (hs s y)[i]? with
  | none => rfl
  | some q =>
    by_cases c : q.1 % 2 = 0
    · simp [c]
    · simp [c]
theorem ct_take (L : List (Nat × Nat)) (P : Nat × Nat → Bool) : ∀ n, n ≤ L.length → (L.take n).countP P = fb_ct (fun i => match L[i]? with | some q => P q | none => false) n := by
  intro n
  induction n with
  | zero => intro _; rfl
  | succ n ih =>
    intro h
    have hq : L[n]? = some L[n] := List.getElem?_eq_getElem (by omega)
    rw [cnt_take hq, ih (by omega), fb_ct_succ, hq]
theorem cm_ct (s : Nat → Nat) (al : Nat → Nat → Bool) (y x : Nat) : cm s al y x = fb_ct (fun i => cni s al y i x) (hs s y).length := by
  have h := ct_take (hs s y) (fun q => can s al q x) (hs s y).length (Nat.le_refl _)
  rw [List.take_length] at h
  exact h
theorem cmv (s : Nat → Nat) (al : Nat → Nat → Bool) (y x : Nat) : cm s al y x = (if x < 8 - s 7 then nR s al y else 0) + (if s 7 ≤ x then nL s al y else 0) := by
  rw [cm_ct]
  by_cases c1 : x < 8 - s 7
  · by_cases c2 : s 7 ≤ x
    · rw [if_pos c1, if_pos c2, nR, nL, ← fb_ct_or (fun k _ => ra_la)]
      refine fb_ct_cong (fun k _ => ?_)
      rw [cni_eq, decide_eq_true c1, decide_eq_true c2, Bool.and_true, Bool.and_true]
    · rw [if_pos c1, if_neg c2, nR, Nat.add_zero]
      refine fb_ct_cong (fun k _ => ?_)
      rw [cni_eq, decide_eq_true c1, decide_eq_false c2, Bool.and_true, Bool.and_false, Bool.or_false]
  · by_cases c2 : s 7 ≤ x
    · rw [if_neg c1, if_pos c2, nL, Nat.zero_add]
      refine fb_ct_cong (fun k _ => ?_)
      rw [cni_eq, decide_eq_false c1, decide_eq_true c2, Bool.and_true, Bool.and_false, Bool.false_or]
    · rw [if_neg c1, if_neg c2]
      refine fb_ct_zero.mpr (fun k _ => ?_)
      rw [cni_eq, decide_eq_false c1, decide_eq_false c2, Bool.and_false, Bool.and_false, Bool.or_false]
/-- sums of prints over a kind of hits -/
def sk (P : Nat → Bool) (n : Nat) (pr : Nat → Nat) : Nat := fb_sm (fun i => if P i = true then pr i else 0) n
theorem sk_cap (P : Nat → Bool) (c : Nat) : ∀ n, fb_sm (fun i => if P i = true then c else 0) n = c * fb_ct P n := by
  intro n
  induction n with
  | zero => rfl
  | succ n ih =>
    rw [fb_sm_succ, ih, fb_ct_succ, Nat.mul_add]
    by_cases h : P n = true
    · rw [if_pos h, if_pos h, Nat.mul_one]
    · rw [if_neg h, if_neg h, Nat.mul_zero]
theorem sk_le {P : Nat → Bool} {n c : Nat} {pr : Nat → Nat} (h : ∀ i, pr i ≤ c) : sk P n pr ≤ c * fb_ct P n := by
  rw [← sk_cap P c n]
  refine fb_sm_le (fun k _ => ?_)
  by_cases hp : P k = true
  · rw [if_pos hp, if_pos hp]; exact h k
  · rw [if_neg hp, if_neg hp]; exact Nat.le_refl _
theorem sk_full {P : Nat → Bool} {n c : Nat} {pr : Nat → Nat} (h : ∀ i, i < n → P i = true → pr i = c) : sk P n pr = c * fb_ct P n := by
  rw [← sk_cap P c n]
  refine fb_sm_cong (fun k hk => ?_)
  by_cases hp : P k = true
  · rw [if_pos hp, if_pos hp]; exact h k hk hp
  · rw [if_neg hp, if_neg hp]
theorem sk_up {P : Nat → Bool} {n i : Nat} {pr : Nat → Nat} (hi : i < n) : sk P n (va_up pr i (pr i + 1)) = sk P n pr + (if P i = true then 1 else 0) := by
  have h1 := fb_sm_upd (fun k => if P k = true then pr k else 0) (if P i = true then pr i + 1 else 0) (i := i) (n := n) hi
  have e : sk P n (va_up pr i (pr i + 1)) = fb_sm (fun k => if k = i then (if P i = true then pr i + 1 else 0) else (if P k = true then pr k else 0)) n := by
    unfold sk
    refine fb_sm_cong (fun k _ => ?_)
    by_cases ek : k = i
    · subst ek; rw [va_up_self, if_pos rfl]
    · rw [va_up_ne _ _ ek, if_neg ek]
  rw [e]
  unfold sk
  by_cases hp : P i = true
  · rw [if_pos hp] at h1 ⊢
    simp only [if_pos hp] at h1 ⊢
    omega
  · simp only [if_neg hp] at h1 ⊢
    omega
theorem fmf_none {len w : Nat} {P : Nat → Bool} : ∀ {r : Nat}, r ≤ len → fmf len w P r = none → ∀ k, len - r ≤ k → k < len → P ((w + k) % len) = false := by
  intro r
  induction r with
  | zero => intro _ _ k h1 h2; omega
  | succ r ih =>
    intro hr h k h1 h2
    unfold fmf at h
    by_cases c : P ((w + (len - (r + 1))) % len) = true
    · rw [if_pos c] at h; cases h
    · rw [if_neg c] at h
      by_cases e : k = len - (r + 1)
      · subst e
        cases q : P ((w + (len - (r + 1))) % len) with
        | false => rfl
        | true => exact absurd q c
      · exact ih (by omega) h k (by omega) h2
theorem fst1_none {s : Nat → Nat} {al : Nat → Nat → Bool} {y x : Nat} {pr : Nat → Nat} (h : fst1 s al y x pr = none) : ∀ i, i < (hs s y).length → cni s al y i x = true → s 5 ≤ pr i := by
  intro i hi hc
  have hpos : 0 < (hs s y).length := by omega
  have hw := wn_lt (s := s) (x := x) hpos
  have key : may s al y x pr i = false := by
    by_cases c : wn s y x ≤ i
    · have := fmf_none (Nat.le_refl _) h (i - wn s y x) (by omega) (by omega)
      rw [show wn s y x + (i - wn s y x) = i by omega, Nat.mod_eq_of_lt hi] at this
      exact this
    · have := fmf_none (Nat.le_refl _) h (i + (hs s y).length - wn s y x) (by omega) (by omega)
      rw [show wn s y x + (i + (hs s y).length - wn s y x) = i + (hs s y).length by omega, Nat.add_mod_right, Nat.mod_eq_of_lt hi] at this
      exact this
  unfold may at key
  rw [hc, Bool.true_and] at key
  have := of_decide_eq_false key
  omega
def few (f l m CR CL : Nat) : Nat := (f - CR) + (l - CL) + (m - ((CR - f) + (CL - l)))
def kF (s : Nat → Nat) (x : Nat) : Bool := decide (x < s 7)
def kL (s : Nat → Nat) (x : Nat) : Bool := decide (8 - s 7 ≤ x)
def kM (s : Nat → Nat) (x : Nat) : Bool := decide (s 7 ≤ x ∧ x < 8 - s 7)
theorem cp_app (P : Nat → Bool) (xs : List Nat) (x : Nat) : (xs ++ [x]).countP P = xs.countP P + (if P x = true then 1 else 0) := by
  rw [List.countP_append]; simp [List.countP_cons]
theorem ms_xs {s : Nat → Nat} (H : Hok s) (al : Nat → Nat → Bool) (y : Nat) (xs : List Nat) (hpw : xs.Pairwise (fun a b => a ≠ b ∧ cm s al y a ≤ cm s al y b)) : (pf s al y xs).2.2.2.1 = few (xs.countP (kF s)) (xs.countP (kL s)) (xs.countP (kM s)) (s 5 * nR s al y) (s 5 * nL s al y) := by
  have h7 := H.2.2.2.2.2.2.2.1
  have main := fold_pre (f := stp s al y) (xs := xs) (t := ps0) (I := fun done t => (∀ i, t.1 i ≤ s 5) ∧ ∃ pF pMR pML pL mF mL mM : Nat, sk (RA s al y) (hs s y).length t.1 = pF + pMR ∧ sk (LA s al y) (hs s y).length t.1 = pL + pML ∧ pF + mF = done.countP (kF s) ∧ pL + mL = done.countP (kL s) ∧ pMR + pML + mM = done.countP (kM s) ∧ t.2.2.2.1 = mF + mL + mM ∧ (0 < mM → sk (RA s al y) (hs s y).length t.1 = s 5 * nR s al y ∧ sk (LA s al y) (hs s y).length t.1 = s 5 * nL s al y) ∧ (0 < mF → sk (RA s al y) (hs s y).length t.1 = s 5 * nR s al y ∧ (pMR = 0 ∨ nL s al y = 0)) ∧ (0 < mL → sk (LA s al y) (hs s y).length t.1 = s 5 * nL s al y ∧ (pML = 0 ∨ nR s al y = 0))) ?_ ?_
  · obtain ⟨hb, pF, pMR, pML, pL, mF, mL, mM, e1, e2, e3, e4, e5, e6, e7, e8, e9⟩ := main
    have u1 := sk_le (P := RA s al y) (n := (hs s y).length) hb
    have u2 := sk_le (P := LA s al y) (n := (hs s y).length) hb
    have z1 : nL s al y = 0 → s 5 * nL s al y = 0 := fun h => by rw [h, Nat.mul_zero]
    have z2 : nR s al y = 0 → s 5 * nR s al y = 0 := fun h => by rw [h, Nat.mul_zero]
    show (xs.foldl (stp s al y) ps0).2.2.2.1 = _
    rw [e6]
    unfold few
    rw [← e3, ← e4, ← e5]
    change sk _ _ _ ≤ s 5 * nR s al y at u1
    change sk _ _ _ ≤ s 5 * nL s al y at u2
    rw [e1] at u1 e7 e8
    rw [e2] at u2 e7 e9
    generalize s 5 * nR s al y = CR at *
    generalize s 5 * nL s al y = CL at *
    omega
  · refine ⟨fun i => Nat.zero_le _, 0, 0, 0, 0, 0, 0, 0, ?_, ?_, rfl, rfl, rfl, rfl, fun h => absurd h (by omega), fun h => absurd h (by omega), fun h => absurd h (by omega)⟩
    · show fb_sm (fun i => if RA s al y i = true then 0 else 0) _ = 0
      rw [sk_cap, Nat.zero_mul]
    · show fb_sm (fun i => if LA s al y i = true then 0 else 0) _ = 0
      rw [sk_cap, Nat.zero_mul]
  · intro done x rest t hxs hI
    obtain ⟨hb, pF, pMR, pML, pL, mF, mL, mM, e1, e2, e3, e4, e5, e6, e7, e8, e9⟩ := hI
    have hcm : ∀ z ∈ done, cm s al y z ≤ cm s al y x := by
      intro z hz
      rw [hxs, List.pairwise_append] at hpw
      exact (hpw.2.2 z hz x List.mem_cons_self).2
    have hcmx := cmv s al y x
    have hM : 0 < done.countP (kM s) → nR s al y + nL s al y ≤ cm s al y x := by
      intro h
      obtain ⟨z, hz, hk⟩ := List.countP_pos_iff.mp h
      have hk : s 7 ≤ z ∧ z < 8 - s 7 := of_decide_eq_true hk
      have := hcm z hz
      rw [cmv s al y z, if_pos hk.2, if_pos hk.1] at this
      exact this
    have hnb := stp_bnd (al := al) (y := y) (x := x) hb
    refine ⟨hnb, ?_⟩
    simp only [cp_app]
    cases hf : fst1 s al y x t.1 with
    | none =>
      rw [stp_none hf]
      have hno := fst1_none hf
      have fR : x < 8 - s 7 → sk (RA s al y) (hs s y).length t.1 = s 5 * nR s al y := by
        intro hx
        refine sk_full (fun i hi hr => ?_)
        have := hno i hi (by rw [cni_eq, hr, decide_eq_true hx]; rfl)
        have := hb i
        omega
      have fL : s 7 ≤ x → sk (LA s al y) (hs s y).length t.1 = s 5 * nL s al y := by
        intro hx
        refine sk_full (fun i hi hr => ?_)
        have := hno i hi (by rw [cni_eq, hr, decide_eq_true hx]; simp)
        have := hb i
        omega
      show ∃ pF pMR pML pL mF mL mM : Nat, sk (RA s al y) (hs s y).length t.1 = pF + pMR ∧ sk (LA s al y) (hs s y).length t.1 = pL + pML ∧ _ ∧ _ ∧ _ ∧ t.2.2.2.1 + 1 = mF + mL + mM ∧ _ ∧ _ ∧ _
      by_cases cF : x < s 7
      · rw [show kF s x = true from decide_eq_true cF, show kL s x = false from decide_eq_false (by omega), show kM s x = false from decide_eq_false (by omega)]
        rw [if_pos (by omega), if_neg (by omega)] at hcmx
        refine ⟨pF, pMR, pML, pL, mF + 1, mL, mM, e1, e2, by simp; omega, by simp; omega, by simp; omega, by omega, e7, fun _ => ⟨fR (by omega), ?_⟩, e9⟩
        by_cases c : pMR = 0
        · exact Or.inl c
        · exact Or.inr (by have := hM (by omega); omega)
      · by_cases cL : 8 - s 7 ≤ x
        · rw [show kF s x = false from decide_eq_false cF, show kL s x = true from decide_eq_true cL, show kM s x = false from decide_eq_false (by omega)]
          rw [if_neg (by omega), if_pos (by omega)] at hcmx
          refine ⟨pF, pMR, pML, pL, mF, mL + 1, mM, e1, e2, by simp; omega, by simp; omega, by simp; omega, by omega, e7, e8, fun _ => ⟨fL (by omega), ?_⟩⟩
          by_cases c : pML = 0
          · exact Or.inl c
          · exact Or.inr (by have := hM (by omega); omega)
        · rw [show kF s x = false from decide_eq_false cF, show kL s x = false from decide_eq_false cL, show kM s x = true from decide_eq_true (by omega)]
          exact ⟨pF, pMR, pML, pL, mF, mL, mM + 1, e1, e2, by simp; omega, by simp; omega, by simp; omega, by omega, fun _ => ⟨fR (by omega), fL (by omega)⟩, e8, e9⟩
    | some i =>
      obtain ⟨f1, f2, f3⟩ := fst1_spec hf
      rw [stp_some hf] at hnb ⊢
      have uR := sk_up (P := RA s al y) (pr := t.1) f1
      have uL := sk_up (P := LA s al y) (pr := t.1) f1
      have bR := sk_le (P := RA s al y) (n := (hs s y).length) hnb
      have bL := sk_le (P := LA s al y) (n := (hs s y).length) hnb
      change sk _ _ (va_up t.1 i (t.1 i + 1)) ≤ s 5 * nR s al y at bR
      change sk _ _ (va_up t.1 i (t.1 i + 1)) ≤ s 5 * nL s al y at bL
      rw [uR] at bR
      rw [uL] at bL
      show ∃ pF pMR pML pL mF mL mM : Nat, sk (RA s al y) (hs s y).length (va_up t.1 i (t.1 i + 1)) = pF + pMR ∧ sk (LA s al y) (hs s y).length (va_up t.1 i (t.1 i + 1)) = pL + pML ∧ _ ∧ _ ∧ _ ∧ t.2.2.2.1 = mF + mL + mM ∧ (_ → sk (RA s al y) (hs s y).length (va_up t.1 i (t.1 i + 1)) = _ ∧ sk (LA s al y) (hs s y).length (va_up t.1 i (t.1 i + 1)) = _) ∧ (_ → sk (RA s al y) (hs s y).length (va_up t.1 i (t.1 i + 1)) = _ ∧ _) ∧ (_ → sk (LA s al y) (hs s y).length (va_up t.1 i (t.1 i + 1)) = _ ∧ _)
      rw [uR, uL]
      rw [cni_eq, Bool.or_eq_true, Bool.and_eq_true, Bool.and_eq_true, decide_eq_true_eq, decide_eq_true_eq] at f2
      by_cases r : RA s al y i = true
      · have hl : ¬ LA s al y i = true := fun q => ra_la ⟨r, q⟩
        have hx : x < 8 - s 7 := by
          rcases f2 with h | h
          · exact h.2
          · exact absurd h.1 hl
        rw [if_pos r] at bR ⊢
        rw [if_neg hl]
        by_cases cF : x < s 7
        · rw [show kF s x = true from decide_eq_true cF, show kL s x = false from decide_eq_false (by omega), show kM s x = false from decide_eq_false (by omega)]
          refine ⟨pF + 1, pMR, pML, pL, mF, mL, mM, by omega, e2, by simp; omega, by simp; omega, by simp; omega, e6, fun h => by have := e7 h; omega, fun h => by have := e8 h; omega, e9⟩
        · rw [show kF s x = false from decide_eq_false cF, show kL s x = false from decide_eq_false (by omega), show kM s x = true from decide_eq_true (by omega)]
          refine ⟨pF, pMR + 1, pML, pL, mF, mL, mM, by omega, e2, by simp; omega, by simp; omega, by simp; omega, e6, fun h => by have := e7 h; omega, fun h => by have := e8 h; omega, e9⟩
      · have hl : LA s al y i = true := by
          rcases f2 with h | h
          · exact absurd h.1 r
          · exact h.1
        have hx : s 7 ≤ x := by
          rcases f2 with h | h
          · exact absurd h.1 r
          · exact h.2
        rw [if_pos hl] at bL ⊢
        rw [if_neg r]
        by_cases cL : 8 - s 7 ≤ x
        · rw [show kF s x = false from decide_eq_false (by omega), show kL s x = true from decide_eq_true cL, show kM s x = false from decide_eq_false (by omega)]
          refine ⟨pF, pMR, pML, pL + 1, mF, mL, mM, e1, by omega, by simp; omega, by simp; omega, by simp; omega, e6, fun h => by have := e7 h; omega, e8, fun h => by have := e9 h; omega⟩
        · rw [show kF s x = false from decide_eq_false (by omega), show kL s x = false from decide_eq_false cL, show kM s x = true from decide_eq_true (by omega)]
          refine ⟨pF, pMR, pML + 1, pL, mF, mL, mM, e1, by omega, by simp; omega, by simp; omega, by simp; omega, e6, fun h => by have := e7 h; omega, e8, fun h => by have := e9 h; omega⟩
