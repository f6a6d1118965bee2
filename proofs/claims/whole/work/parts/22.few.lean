/-! how many are missed, in numbers: fw s al c d y -/
def cF (s : Nat → Nat) (d : Nat) : Nat := fb_ct (fun x => d.testBit x && kF s x) 8
def cL (s : Nat → Nat) (d : Nat) : Nat := fb_ct (fun x => d.testBit x && kL s x) 8
def cM (s : Nat → Nat) (d : Nat) : Nat := fb_ct (fun x => d.testBit x && kM s x) 8
def fw (s : Nat → Nat) (al : Nat → Nat → Bool) (c d y : Nat) : Nat := few (cF s d) (cL s d) (cM s d) (c * nR s al y) (c * nL s al y)
theorem cp_ct {d N : Nat} {s : Nat → Nat} {al : Nat → Nat → Bool} {y : Nat} (hN : ∀ x, cm s al y x < N) (P : Nat → Bool) : (ordp s al d y N).countP P = fb_ct (fun x => d.testBit x && P x) 8 := by
  rw [List.countP_eq_length_filter]
  refine cnt_list _ 8 _ ((ordp_nd s al d y N).filter P) (fun x => ?_)
  rw [List.mem_filter, ordp_mem, Bool.and_eq_true]
  have := hN x
  constructor
  · rintro ⟨⟨h1, h2, _⟩, h4⟩; exact ⟨h1, h2, h4⟩
  · rintro ⟨h1, h2, h4⟩; exact ⟨⟨h1, h2, this⟩, h4⟩
theorem fin_ms {s : Nat → Nat} (H : Hok s) (al : Nat → Nat → Bool) (d y : Nat) : (fin s al d y).2.2.2.1 = fw s al (s 5) d y := by
  have hN : ∀ x, cm s al y x < 13 := fun x => by have := cm_le s al y x; have := hs_len12 H y; omega
  have h := ms_xs H al y (ordp s al d y 13) (ordp_pw s al d y 13)
  rw [cp_ct hN, cp_ct hN, cp_ct hN] at h
  exact h
theorem cut3 (s : Nat → Nat) (h7 : s 7 ≤ 3) (d : Nat) : cF s d + cL s d + cM s d = fb_ct (fun x => d.testBit x) 8 := by
  have e1 : fb_ct (fun x => (d.testBit x && kF s x) || (d.testBit x && kL s x)) 8 = cF s d + cL s d := by
    refine fb_ct_or (fun k hk h => ?_)
    simp only [Bool.and_eq_true, kF, kL, decide_eq_true_eq] at h
    omega
  have e2 : fb_ct (fun x => ((d.testBit x && kF s x) || (d.testBit x && kL s x)) || (d.testBit x && kM s x)) 8 = fb_ct (fun x => (d.testBit x && kF s x) || (d.testBit x && kL s x)) 8 + cM s d := by
    refine fb_ct_or (fun k hk h => ?_)
    simp only [Bool.and_eq_true, Bool.or_eq_true, kF, kL, kM, decide_eq_true_eq] at h
    omega
  rw [← e1, ← e2]
  refine fb_ct_cong (fun k hk => ?_)
  cases hd : d.testBit k with
  | false => simp
  | true =>
    simp only [Bool.true_and, kF, kL, kM]
    by_cases a : k < s 7
    · simp [a]
    · by_cases b : 8 - s 7 ≤ k
      · simp [b]
      · simp [a, b]; omega
theorem c8_12 {d : Nat} (hd : d < 256) : fb_ct (fun x => d.testBit x) 8 = pcn d := by
  have h := ct8_12 hd (fun _ => true)
  simp only [Bool.and_true] at h
  exact h
theorem few_z {s : Nat → Nat} {al : Nat → Nat → Bool} {c y : Nat} : fw s al c 0 y = 0 := by
  have z : ∀ P : Nat → Bool, fb_ct (fun x => Nat.testBit 0 x && P x) 8 = 0 := fun P => fb_ct_zero.mpr (fun k _ => by rw [Nat.zero_testBit]; rfl)
  unfold fw cF cL cM few
  rw [z, z, z]
  omega
/-- the class's way -/
theorem q_cf1 : ∀ e, e < 4 → ∀ d, d < 256 → pcn (d % 2 ^ e) = fb_ct (fun x => d.testBit x && decide (x < e)) 8 := by decide +kernel
theorem q_cf2 : ∀ e, e < 4 → ∀ d, d < 256 → pcn (d / 2 ^ (8 - e)) = fb_ct (fun x => d.testBit x && decide (8 - e ≤ x)) 8 := by decide +kernel
theorem q_max0 {a b : Nat} (ha : a < 2 ^ 30) (hb : b < 2 ^ 30) : (if (0 : Int32) < nI a - nI b then nI a - nI b else (0 : Int32)) = nI (a - b) := by
  rcases Nat.lt_or_ge a b with h | h
  · rw [if_neg (by
      have := pk_sneg (by omega) h
      exact fun q => absurd (Int32.lt_trans this q) (Int32.lt_irrefl)), Nat.sub_eq_zero_of_le (by omega)]; rfl
  · rw [pk_sub h]
    by_cases e : a - b = 0
    · rw [e]; rfl
    · rw [if_pos (show (0 : Int32) < nI (a - b) from (nI_ltI (a := 0) (b := a - b) (by omega) (by omega)).mpr (by omega))]
def nRk (s : Nat → Nat) (al : Nat → Nat → Bool) (y k : Nat) : Nat := fb_ct (RA s al y) k
def nLk (s : Nat → Nat) (al : Nat → Nat → Bool) (y k : Nat) : Nat := fb_ct (LA s al y) k
theorem q_mod {a e : Nat} : nI a &&& nI (2 ^ e - 1) = nI (a % 2 ^ e) := fa_mask a e
theorem s_few_loop {s : Nat → Nat} {al : Nat → Nat → Bool} {y c : Nat} {c_this_picture : Nat → Int32} {c_this_head : Nat → Int32} {c_this_hitCount : Nat → Int32} {c_this_hitPlace : Nat → Int32} {c_a2 : Nat → Int32} {x4 : Int32} {post : Int32 → Unit → Prop} {Ke_111 : Int32 → Int32 → Prop} (hh : Hd s c_this_head) (hH : ClsH s c_this_hitCount c_this_hitPlace) (hL : LivOk al c_a2) (hy : y < 16) (hc : c ≤ 8) (hK : Ke_111 (nI (c * nR s al y)) (nI (c * nL s al y))) : ∀ (m k : Nat), k ≤ (hs s y).length → (hs s y).length - k < m → wq_X1_fewestMissed_24 c_this_picture c_this_head c_this_hitCount c_this_hitPlace c_a2 (nI y) (nI c) x4 post Ke_111 m (nI (c * nRk s al y k)) (nI (c * nLk s al y k)) (nI k) := by
  have H := hh.1
  have hl12 := hs_len12 H y
  intro m
  induction m with
  | zero => intro k g1 g2; omega
  | succ m ih =>
    intro k g1 g2
    unfold wq_X1_fewestMissed_24
    refine ⟨vp_in_nI hy (by omega), ?_⟩
    rw [nI_clamp (by omega), hH.cnt hy]
    simp (disch := omega) only [nI_leI]
    refine ⟨fun q => ?_, fun q => ?_⟩
    · have e : k = (hs s y).length := by omega
      subst e; exact hK
    · obtain ⟨w, hw⟩ := hs_get (s := s) (y := y) (i := k) (by omega)
      obtain ⟨b1, b2, b3, b4⟩ := hs_bd H hw
      refine s_pass H hH hy hw (s_nozzle H hH hy hw ?_)
      obtain ⟨a, la, lb, lc⟩ := hL w.2 b3
      refine s_isLiving b3 (by omega) lb (by omega) ?_
      rw [lc w.1 b2, b01_0]
      have st := ih (k + 1) (by omega) (by omega)
      have eR : nRk s al y (k + 1) = nRk s al y k + (if al w.1 w.2 = true ∧ w.1 % 2 = 0 then 1 else 0) := by
        unfold nRk; rw [fb_ct_succ]; unfold RA; rw [hw]; simp
      have eL : nLk s al y (k + 1) = nLk s al y k + (if al w.1 w.2 = true ∧ ¬ w.1 % 2 = 0 then 1 else 0) := by
        unfold nLk; rw [fb_ct_succ]; unfold LA; rw [hw]; simp
      rw [eR, eL] at st
      have fin : ∀ v, v = (if al w.1 w.2 = true then c else 0) → wq_X1_fewestMissed_65 c_this_picture c_this_head c_this_hitCount c_this_hitPlace c_a2 (nI y) (nI c) x4 post (wq_X1_fewestMissed_24 c_this_picture c_this_head c_this_hitCount c_this_hitPlace c_a2 (nI y) (nI c) x4 post Ke_111 m) Ke_111 (nI (c * nRk s al y k)) (nI (c * nLk s al y k)) (nI k) (nI w.1) (nI v) := by
        intro v hv
        unfold wq_X1_fewestMissed_65
        refine s_goesRight ?_
        rw [b01_0]
        by_cases cr : w.1 % 2 = 0
        · rw [decide_eq_true cr]
          refine ⟨fun q => absurd q (by decide), fun _ => ?_⟩
          unfold wq_X1_fewestMissed_83
          rw [forall_eq]
          refine s_goesRight ?_
          rw [b01_0, decide_eq_true cr]
          refine ⟨fun q => absurd q (by decide), fun _ => ?_⟩
          simp only [forall_eq, fa_lit, nI_add, Nat.add_zero]
          rw [if_neg (show ¬ (al w.1 w.2 = true ∧ ¬ w.1 % 2 = 0) from fun q => q.2 cr), Nat.add_zero] at st
          by_cases ca : al w.1 w.2 = true
          · rw [if_pos ⟨ca, cr⟩, Nat.mul_add, Nat.mul_one] at st
            rw [if_pos ca] at hv; subst hv; exact st
          · rw [if_neg (fun q => ca q.1), Nat.add_zero] at st
            rw [if_neg ca] at hv; subst hv; exact st
        · rw [decide_eq_false cr]
          refine ⟨fun _ => ?_, fun q => absurd rfl q⟩
          unfold wq_X1_fewestMissed_83
          rw [forall_eq]
          refine s_goesRight ?_
          rw [b01_0, decide_eq_false cr]
          refine ⟨fun _ => ?_, fun q => absurd rfl q⟩
          simp only [forall_eq, fa_lit, nI_add, Nat.add_zero]
          rw [if_neg (show ¬ (al w.1 w.2 = true ∧ w.1 % 2 = 0) from fun q => cr q.2), Nat.add_zero] at st
          by_cases ca : al w.1 w.2 = true
          · rw [if_pos ⟨ca, cr⟩, Nat.mul_add, Nat.mul_one] at st
            rw [if_pos ca] at hv; subst hv; exact st
          · rw [if_neg (fun q => ca q.1), Nat.add_zero] at st
            rw [if_neg ca] at hv; subst hv; exact st
      refine ⟨fun q => fin 0 (by rw [if_neg (by rw [q]; decide)]), fun q => fin c (by rw [if_pos (by cases e : al w.1 w.2 with | false => exact absurd e q | true => rfl)])⟩
theorem fw_le {s : Nat → Nat} (h7 : s 7 ≤ 3) {al : Nat → Nat → Bool} {c d y : Nat} : fw s al c d y ≤ 8 := by
  have h := cut3 s h7 d
  have := fb_ct_le (fun x => d.testBit x) 8
  unfold fw few
  omega
theorem s_fewestMissed {s : Nat → Nat} {al : Nat → Nat → Bool} {y c d : Nat} {c_this_picture : Nat → Int32} {c_this_head : Nat → Int32} {c_this_hitCount : Nat → Int32} {c_this_hitPlace : Nat → Int32} {c_a2 : Nat → Int32} {post : Int32 → Unit → Prop} (hh : Hd s c_this_head) (hH : ClsH s c_this_hitCount c_this_hitPlace) (hL : LivOk al c_a2) (hy : y < 16) (hc : c ≤ 8) (hp : c_this_picture y = nI d) (hd : d < 256) (h : post (nI (fw s al c d y)) ()) : wp_X1_fewestMissed (nI y) (nI c) c_this_picture c_this_head c_this_hitCount c_this_hitPlace c_a2 post := by
  have H := hh.1
  obtain ⟨a0, a1, a2, a3, a4, a5, a6, a7, a8⟩ := id H
  unfold wp_X1_fewestMissed
  refine ⟨vp_in_nI hy (by omega), ?_⟩
  rw [forall_eq, nI_clamp (by omega), hp]
  refine ⟨fun q => ?_, fun q => ?_⟩
  · refine ⟨(hs s y).length + 1, s_few_loop hh hH hL hy hc ?_ _ 0 (by omega) (by omega)⟩
    have h12 := hs_len12 H y
    have r1 : nR s al y ≤ 12 := Nat.le_trans (fb_ct_le _ _) h12
    have r2 : nL s al y ≤ 12 := Nat.le_trans (fb_ct_le _ _) h12
    have m1 : c * nR s al y ≤ 8 * 12 := Nat.mul_le_mul hc r1
    have m2 : c * nL s al y ≤ 8 * 12 := Nat.mul_le_mul hc r2
    have k0 := cut3 s a7 d
    rw [c8_12 hd] at k0
    have k1 : pcn (d % 2 ^ s 7) = cF s d := q_cf1 (s 7) (by omega) d hd
    have k2 : pcn (d / 2 ^ (8 - s 7)) = cL s d := q_cf2 (s 7) (by omega) d hd
    have p1 : 2 ^ s 7 ≤ 2 ^ 3 := Nat.pow_le_pow_right (by decide) a7
    have p0 : 0 < 2 ^ s 7 := Nat.pow_pos (by decide)
    have l1 : d % 2 ^ s 7 < 4096 := Nat.lt_of_le_of_lt (Nat.mod_le _ _) (by omega)
    have l2 : d / 2 ^ (8 - s 7) < 4096 := Nat.lt_of_le_of_lt (Nat.div_le_self _ _) (by omega)
    have l3 := pcn_le d
    rw [hh.at 7 (by omega) (by omega)]
    rw [forall_eq, forall_eq]
    rw [show (1 : Int32) = nI 1 from rfl, show (31 : Int32) = nI 31 from rfl, q_shl (by omega) (by omega), Nat.one_mul, pk_sub (by omega), q_mod]
    refine s_bitCount l1 ?_
    rw [forall_eq, show (8 : Int32) = nI 8 from rfl, pk_sub (by omega), q_shr (by omega) (by omega)]
    refine s_bitCount l2 (s_bitCount (by omega) ?_)
    rw [k1, k2]
    simp only [forall_eq]
    rw [pk_sub (a := pcn d) (by omega), pk_sub (a := pcn d - cF s d) (by omega), show pcn d - cF s d - cL s d = cM s d by omega, q_max0 (by omega) (by omega), q_max0 (by omega) (by omega), q_max0 (by omega) (by omega), q_max0 (by omega) (by omega), nI_add, nI_add, q_max0 (by omega) (by omega), nI_add]
    exact h
  · have e : d = 0 := (nI_eq (b := 0) (by omega) (by omega)).mp q
    subst e
    rw [few_z] at h
    exact h
