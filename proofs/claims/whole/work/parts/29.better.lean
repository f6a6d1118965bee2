/-! better -/
def bix (b : Nat) : Nat := if b = 0 then 2 else if b = 1 then 8 else 4
def bN (b : Nat) : Nat := if b = 0 then 12 else if b = 1 then 4 else 21
def blo (b : Nat) : Int32 := if b = 0 then 1 else if b = 1 then 0 else -20
def bhi (b : Nat) : Int32 := if b = 0 then 12 else if b = 1 then 3 else 0
def bvN (b i : Nat) : Nat := if b = 0 then i + 1 else if b = 1 then i else 20 - i
def bvl (b i : Nat) : Int32 := nI i + blo b
def sB (s : Nat → Nat) (b i : Nat) : Nat → Nat := va_up s (bix b) (bvN b i)
theorem bvl_s (b i : Nat) : bvl b i + 1 = bvl b (i + 1) := by
  unfold bvl
  rw [← nI_1, Int32.add_assoc, Int32.add_comm (blo b) 1, ← Int32.add_assoc]
theorem bvl_hi : ∀ b, b < 3 → ∀ i, i < 22 → i ≤ bN b → (bhi b < bvl b i ↔ bN b ≤ i) := by decide +kernel
theorem bvl_hv : ∀ b, b < 3 → ∀ i, i < 21 → i < bN b → bvl b i = (if bix b = 4 then -nI (bvN b i) else nI (bvN b i)) := by decide +kernel
theorem bvl_min : ∀ b, b < 3 → ∀ i, i < 22 → ¬ bvl b i = (-2147483648 : Int32) := by decide +kernel
theorem bN_le : ∀ b, b < 3 → 1 ≤ bN b ∧ bN b ≤ 21 ∧ bix b < 9 := by decide
theorem sB_ok {s : Nat → Nat} (H : Hok s) {b i : Nat} (hb : b < 3) (hi : i < bN b) : Hok (sB s b i) := by
  obtain ⟨a0, a1, a2, a3, a4, a5, a6, a7, a8⟩ := H
  have up : ∀ k v j, va_up s k v j = if j = k then v else s j := fun k v j => by
    by_cases c : j = k
    · subst c; rw [va_up_self, if_pos rfl]
    · rw [va_up_ne _ _ c, if_neg c]
  unfold sB Hok
  simp only [up]
  have : b = 0 ∨ b = 1 ∨ b = 2 := by omega
  rcases this with h | h | h <;> subst h <;> simp [bix, bvN, bN] at hi ⊢ <;> omega
theorem sB_hd {s : Nat → Nat} (H : Hok s) {b i : Nat} (hb : b < 3) (hi : i < bN b) {head : Nat → Int32} (hh : ∀ k, k < 9 → k ≠ bix b → head k = hv s k) : Hd (sB s b i) (upd head (bix b) (bvl b i)) := by
  refine ⟨sB_ok H hb hi, fun k hk => ?_⟩
  have hN := bN_le b hb
  by_cases e : k = bix b
  · subst e
    rw [pk_us, bvl_hv b hb i (by omega) hi, hv]
    unfold sB
    rw [va_up_self]
    by_cases c : bix b = 4
    · rw [if_pos c, if_pos c]
      rw [c, va_up_self]
    · rw [if_neg c, if_neg c]
  · rw [pk_un e, hh k hk e]
    unfold hv sB
    by_cases c : k = 4
    · subst c; rw [if_pos rfl, if_pos rfl, va_up_ne _ _ e]
    · rw [if_neg c, if_neg c, va_up_ne _ _ e]
def btr (M S : Nat → Nat) (i j : Nat) : Bool := decide (M i < M j ∨ (M i = M j ∧ S i < S j))
def bi (M S : Nat → Nat) : Nat → Nat
  | 0 => 0
  | k + 1 => if k = 0 then 0 else if btr M S k (bi M S k) = true then k else bi M S k
def mB (s : Nat → Nat) (al : Nat → Nat → Bool) (d : Nat → Nat) (b : Nat) (i : Nat) : Nat := sMiss (sB s b i) al d
def tB (s : Nat → Nat) (al : Nat → Nat → Bool) (d : Nat → Nat) (b : Nat) (i : Nat) : Nat := sStray (sB s b i) al d
def bB (s : Nat → Nat) (al : Nat → Nat → Bool) (d : Nat → Nat) (b k : Nat) : Nat := bi (mB s al d b) (tB s al d b) k
def aBet (s : Nat → Nat) (al : Nat → Nat → Bool) (d : Nat → Nat) (b w : Nat) : Int32 := if w = 0 then bvl b (bB s al d b (bN b)) else nI (mB s al d b (bB s al d b (bN b)))
theorem tot_sum {s : Nat → Nat} (H : Hok s) (al : Nat → Nat → Bool) {d : Nat → Nat} (hd : ∀ y, y < 16 → d y < 256) : sMiss s al d + sStray s al d + sWant s al d = sDots d := by
  unfold sMiss sStray sWant sDots
  rw [← fb_sm_add, ← fb_sm_add]
  refine fb_sm_cong (fun k hk => ?_)
  rw [(fin_nums s al (d k) k).2.2, ord_len H al (hd k hk)]
theorem tot_le (d : Nat → Nat) : sDots d ≤ 16 * 12 := fb_sm_bound (fun k _ => pcn_le _)
theorem bi_lt (M S : Nat → Nat) : ∀ k, 0 < k → bi M S k < k := by
  intro k
  induction k with
  | zero => intro h; omega
  | succ k ih =>
    intro _
    unfold bi
    by_cases c : k = 0
    · rw [if_pos c]; omega
    · rw [if_neg c]
      by_cases c2 : btr M S k (bi M S k) = true
      · rw [if_pos c2]; omega
      · rw [if_neg c2]; have := ih (by omega); omega
/-- a copy of a whole row -/
theorem cpy_at (f g : Nat → Int32) {N k : Nat} (h : k < N) : va_cpy f g 0 0 N k = f k := by
  unfold va_cpy
  first
    | (rw [if_pos (by omega)]; congr 1)
    | simp [h]
theorem s_takeInputs {s d : Nat → Nat} {al : Nat → Nat → Bool} {c_this_picture : Nat → Int32} {c_this_head : Nat → Int32} {c_this_living : Nat → Int32} {c_a1_picture : Nat → Int32} {c_a1_head : Nat → Int32} {c_a1_living : Nat → Int32} {post : ((Nat → Int32) × (Nat → Int32) × (Nat → Int32)) → Prop} (hh : Hd s c_a1_head) (hp : PicOk d c_a1_picture) (hL : LivOk al c_a1_living) (h : ∀ p hd' l, PicOk d p → Hd s hd' → LivOk al l → post (p, hd', l)) : wp_X1_takeInputs c_this_picture c_this_head c_this_living c_a1_picture c_a1_head c_a1_living post := by
  unfold wp_X1_takeInputs
  have z0 : (0 : Int32).toNatClampNeg = 0 := rfl
  have z16 : (16 : Int32).toNatClampNeg = 16 := rfl
  have z9 : (9 : Int32).toNatClampNeg = 9 := rfl
  have z8 : (8 : Int32).toNatClampNeg = 8 := rfl
  rw [z0, z16, z9, z8]
  refine ⟨by decide, by decide, by decide, by decide, by decide, by decide, by decide, by decide, by decide, by decide, by decide, by decide, by decide, by decide, by decide, h _ _ _ ?_ ?_ ?_⟩
  · intro y hy; rw [cpy_at _ _ hy]; exact hp y hy
  · exact ⟨hh.1, fun k hk => by rw [cpy_at _ _ hk]; exact hh.2 k hk⟩
  · intro j hj; rw [cpy_at _ _ hj]; exact hL j hj
