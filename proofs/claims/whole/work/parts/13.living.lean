/-! the class's rows of bits: in which passes a nozzle is alive -/
def LivOk (al : Nat → Nat → Bool) (c : Nat → Int32) : Prop := ∀ j, j < 8 → ∃ a, a < 4096 ∧ c j = nI a ∧ ∀ p, p < 12 → a.testBit p = al p j
theorem q_bvN (n : Nat) : (nI n).toBitVec = BitVec.ofNat 32 n := rfl
theorem q_andn (a m : Nat) : nI a &&& (nI m ^^^ (-1)) = nI (a ^^^ (a &&& m)) := by
  apply Int32.toBitVec_inj.mp
  rw [Int32.toBitVec_and, Int32.toBitVec_xor, q_bvN, q_bvN, q_bvN]
  apply BitVec.eq_of_getLsbD_eq
  intro i hi
  have h1 : ((-1 : Int32).toBitVec).getLsbD i = true := by
    have : (-1 : Int32).toBitVec = BitVec.allOnes 32 := by decide
    rw [this, BitVec.getLsbD_allOnes]; simp [hi]
  simp only [BitVec.getLsbD_and, BitVec.getLsbD_xor, BitVec.getLsbD_ofNat, h1, Nat.testBit_xor, Nat.testBit_and]
  simp only [hi, decide_true, Bool.true_and]
  cases a.testBit i <;> cases m.testBit i <;> rfl
theorem q_mask : ∀ q, q < 12 → ∀ p, p < 12 → (4095 * 2 ^ q % 4096).testBit p = decide (q ≤ p) := by decide +kernel
theorem q_mask_lt (q : Nat) : 4095 * 2 ^ q % 4096 < 2 ^ 12 := Nat.mod_lt _ (by decide)
def bval (ek : Nat → Nat) : Option Nat → Bool
  | none => true
  | some b => decide (ek b = 1)
theorem s_apply {n : Nat} {ek ea en : Nat → Nat} {ck ca cn c : Nat → Int32} (hE : EvOk n ek ea en ck ca cn) {i a : Nat} (hi : i < n) (hc : c (en i) = nI a) (ha : a < 4096) {post : (Nat → Int32) → Prop}
    (h : ∀ a', a' < 4096 → (∀ p, p < 12 → a'.testBit p = if ea i ≤ p then decide (ek i = 1) else a.testBit p) → post (upd c (en i) (nI a'))) : wp_X0_apply (nI i) ck ca cn c post := by
  obtain ⟨hn8, hev⟩ := hE
  obtain ⟨⟨e1, e2, e3⟩, f1, f2, f3⟩ := hev i hi
  have hsh : (4095 : Nat) * 2 ^ ea i < 2 ^ 32 := by
    have : 2 ^ ea i ≤ 2 ^ 11 := Nat.pow_le_pow_right (by decide) (by omega)
    omega
  unfold wp_X0_apply
  simp (disch := omega) only [q_in, nI_clamp, true_and, forall_eq, e1, e2, e3, hc, nI_eq, fa_lit]
  rw [q_shl (by omega) hsh, q_and4095]
  have hml := q_mask_lt (ea i)
  refine ⟨fun c1 => ?_, fun c1 => ?_⟩
  · rw [fa_or]
    refine h _ (Nat.or_lt_two_pow (n := 12) ha hml) (fun p hp => ?_)
    rw [Nat.testBit_or, q_mask _ f2 p hp]
    by_cases hle : ea i ≤ p
    · rw [if_pos hle, decide_eq_true hle, decide_eq_true (show ek i = 1 by omega)]; simp
    · rw [if_neg hle, decide_eq_false hle]; simp
  · show post (upd c (en i) (nI a &&& (nI (4095 * 2 ^ ea i % 4096) ^^^ (-1))))
    rw [q_andn]
    refine h _ ?_ (fun p hp => ?_)
    · exact Nat.xor_lt_two_pow (n := 12) ha (Nat.lt_of_le_of_lt Nat.and_le_left ha)
    · rw [Nat.testBit_xor, Nat.testBit_and, q_mask _ f2 p hp]
      by_cases hle : ea i ≤ p
      · rw [if_pos hle, decide_eq_true hle, decide_eq_false (show ¬ ek i = 1 by omega)]; simp
      · rw [if_neg hle, decide_eq_false hle]; simp
def Elg (n : Nat) (ea en : Nat → Nat) (ch : Nat → Bool) (q i p j : Nat) (e : Nat) : Prop := (e < n ∧ en e = j ∧ ea e ≤ p ∧ ch e = true) ∧ (ea e < q ∨ (ea e = q ∧ e < i))
def LivS (n : Nat) (ek ea en : Nat → Nat) (ch : Nat → Bool) (q i : Nat) (c : Nat → Int32) : Prop := ∀ j, j < 8 → ∃ a, a < 4096 ∧ c j = nI a ∧ ∀ p, p < 12 → ∀ b, BestOf ea (Elg n ea en ch q i p j) b → a.testBit p = bval ek b
theorem livS_cong {n : Nat} {ek ea en : Nat → Nat} {ch : Nat → Bool} {q i q' i' : Nat} {c : Nat → Int32} (h : ∀ p j e, Elg n ea en ch q' i' p j e ↔ Elg n ea en ch q i p j e) (hL : LivS n ek ea en ch q i c) : LivS n ek ea en ch q' i' c := by
  intro j hj
  obtain ⟨a, h1, h2, h3⟩ := hL j hj
  exact ⟨a, h1, h2, fun p hp b hb => h3 p hp b (best_cong (fun e => h p j e) hb)⟩
theorem s_livingBy {n : Nat} {ek ea en : Nat → Nat} {ck ca cn c0 : Nat → Int32} (hE : EvOk n ek ea en ck ca cn) {cb : Nat} (hcb : cb < 2 ^ 31) {post : (Nat → Int32) → Prop}
    (h : ∀ d, LivOk (alv n ek ea en (fun e => cb.testBit e)) d → post d) : wp_X0_livingBy (nI cb) (nI n) ck ca cn c0 post := by
  unfold wp_X0_livingBy
  refine s_fill (by omega) (fun d0 hd0 _ => ?_)
  have hn8 := hE.1
  have hev := hE.2
  have inner : ∀ (q : Nat), q < 12 → ∀ (Ke : (Nat → Int32) → Prop), (∀ d, LivS n ek ea en (fun e => cb.testBit e) (q + 1) 0 d → Ke d) → ∀ (m i : Nat) (d : Nat → Int32), i ≤ n → n - i < m → LivS n ek ea en (fun e => cb.testBit e) q i d → wq_X0_livingBy_18 (nI n) ck ca cn (nI cb) (nI q) post Ke m (nI i) d := by
    intro q hq Ke hK m
    induction m with
    | zero => intro i d g1 g2; omega
    | succ m ih =>
      intro i d g1 g2 hL
      unfold wq_X0_livingBy_18
      simp (disch := omega) only [nI_leI]
      refine ⟨fun c => ?_, fun c => ?_⟩
      · have : i = n := by omega
        subst this
        refine hK d (livS_cong (fun p j e => ?_) hL)
        unfold Elg
        constructor
        · rintro ⟨x1, x2⟩; exact ⟨x1, by have := x1.1; omega⟩
        · rintro ⟨x1, x2⟩; exact ⟨x1, by omega⟩
      · obtain ⟨⟨e1, e2, e3⟩, f1, f2, f3⟩ := hev i (by omega)
        simp (disch := omega) only [q_in, nI_clamp, true_and, forall_eq, e2, nI_eq, fa_lit]
        refine ⟨fun c1 => ?_, fun c1 => ?_⟩
        · rw [nI_add]
          refine ih (i + 1) d (by omega) (by omega) (livS_cong (fun p j e => ?_) hL)
          unfold Elg
          constructor
          · rintro ⟨x1, x2⟩
            refine ⟨x1, ?_⟩
            by_cases ee : e = i
            · subst ee; omega
            · omega
          · rintro ⟨x1, x2⟩; exact ⟨x1, by omega⟩
        · rw [q_shr hcb (by omega), q_and1, q_bit]
          refine ⟨fun c2 => ?_, fun c2 => ?_⟩
          · rw [nI_add]
            refine ih (i + 1) d (by omega) (by omega) (livS_cong (fun p j e => ?_) hL)
            unfold Elg
            constructor
            · rintro ⟨x1, x2⟩
              refine ⟨x1, ?_⟩
              by_cases ee : e = i
              · subst ee; exact absurd x1.2.2.2 c2
              · omega
            · rintro ⟨x1, x2⟩; exact ⟨x1, by omega⟩
          · obtain ⟨a, ha1, ha2, ha3⟩ := hL (en i) f3
            refine s_apply hE (by omega) ha2 ha1 (fun a' ha' hbit => ?_)
            rw [nI_add]
            refine ih (i + 1) _ (by omega) (by omega) ?_
            intro j hj
            by_cases ej : j = en i
            · subst ej
              refine ⟨a', ha', pk_us, fun p hp b hb => ?_⟩
              rw [hbit p hp]
              by_cases hle : ea i ≤ p
              · rw [if_pos hle]
                have hbi : BestOf ea (Elg n ea en (fun e => cb.testBit e) q (i + 1) p (en i)) (some i) := by
                  refine ⟨⟨⟨by omega, rfl, hle, c2⟩, Or.inr ⟨c1, by omega⟩⟩, fun e he => ?_⟩
                  rcases he.2 with h3 | h3
                  · left; omega
                  · right; omega
                rw [best_uniq hb hbi]
                rfl
              · rw [if_neg hle]
                refine ha3 p hp b (best_cong (fun e => ?_) hb)
                unfold Elg
                constructor
                · rintro ⟨x1, x2⟩
                  refine ⟨x1, ?_⟩
                  by_cases ee : e = i
                  · subst ee; exact absurd x1.2.2.1 hle
                  · omega
                · rintro ⟨x1, x2⟩; exact ⟨x1, by omega⟩
            · obtain ⟨a2, g3, g4, g5⟩ := hL j hj
              refine ⟨a2, g3, by rw [pk_un ej]; exact g4, fun p hp b hb => g5 p hp b (best_cong (fun e => ?_) hb)⟩
              unfold Elg
              constructor
              · rintro ⟨x1, x2⟩
                refine ⟨x1, ?_⟩
                by_cases ee : e = i
                · subst ee; exact absurd x1.2.1.symm ej
                · omega
              · rintro ⟨x1, x2⟩; exact ⟨x1, by omega⟩
  have outer : ∀ (m q : Nat) (d : Nat → Int32), q ≤ 12 → 12 - q < m → LivS n ek ea en (fun e => cb.testBit e) q 0 d → wq_X0_livingBy_9 (nI n) ck ca cn (nI cb) post (fun d => post d) m (nI q) d := by
    intro m
    induction m with
    | zero => intro q d g1 g2; omega
    | succ m ih =>
      intro q d g1 g2 hL
      unfold wq_X0_livingBy_9
      simp (disch := omega) only [fa_lit, nI_leI]
      refine ⟨fun c => ?_, fun c => ?_⟩
      · have : q = 12 := by omega
        subst this
        refine h d (fun j hj => ?_)
        obtain ⟨a, h1, h2, h3⟩ := hL j hj
        refine ⟨a, h1, h2, fun p hp => ?_⟩
        have hb := bst_best ea en (fun e => cb.testBit e) p j n
        rw [h3 p hp _ (best_cong (fun e => ?_) hb)]
        · unfold alv bval
          cases bst ea en (fun e => cb.testBit e) p j n <;> rfl
        · unfold Elg
          constructor
          · intro x1; exact ⟨x1, Or.inl (by have := (hev e x1.1).2.2.1; omega)⟩
          · intro x1; exact x1.1
      · refine ⟨n + 1, inner q (by omega) _ (fun d' hd' => ?_) (n + 1) 0 d (by omega) (by omega) hL⟩
        intro v hv
        rw [hv, nI_add]
        exact ih (q + 1) d' (by omega) (by omega) hd'
  refine ⟨13, outer 13 0 d0 (by omega) (by omega) (fun j hj => ⟨4095, by omega, hd0 j hj, fun p hp b hb => ?_⟩)⟩
  cases b with
  | none =>
    show Nat.testBit 4095 p = true
    have hall : ∀ p, p < 12 → Nat.testBit 4095 p = true := by decide
    exact hall p hp
  | some b => exact absurd hb.1.2 (by omega)
