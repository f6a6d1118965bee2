/-! the reference's digest -/
theorem mx_eq (h v : Int64) : 31 * h + v = mx h v := rfl
theorem r_ld_h {d s : Nat → Nat} {n : Nat} {ek ea en : Nat → Nat} {y : Nat} {h0 : Int64} {f_this_events : Int32} {c_this_told : Nat → Int32} {c_this_head : Nat → Int32} {c_this_eventKind : Nat → Int32} {c_this_eventAt : Nat → Int32} {c_this_eventNozzle : Nat → Int32} {post : Int64 → (Int32 × Int32 × Int32 × Int32 × Int32 × (Nat → Int32) × (Nat → Int32) × (Nat → Int32) × (Nat → Int32) × (Nat → Int32) × (Nat → Int32) × (Nat → Int32) × (Nat → Int32) × (Nat → Int32) × (Nat → Int32) × (Nat → Int32)) → Prop} {Ke_65 : Int64 → (Int32) → (Int32) → (Int32) → (Int32) → (Int32) → (Nat → Int32) → (Nat → Int32) → (Nat → Int32) → (Nat → Int32) → (Nat → Int32) → (Nat → Int32) → (Nat → Int32) → (Nat → Int32) → (Nat → Int32) → (Nat → Int32) → (Nat → Int32) → Prop} (I : RefI d s n ek ea en c_this_told c_this_head f_this_events c_this_eventKind c_this_eventAt c_this_eventNozzle) (hy : y < 16) (hK : ∀ (e1 e2 e3 e4 e5 : Int32) (f1 f2 f3 f4 f5 f6 f7 f8 f9 f10 f11 : Nat → Int32), Ke_65 (fo (gH s y) h0 (3)) e1 e2 e3 e4 e5 f1 f2 f3 f4 f5 f6 f7 f8 f9 f10 f11) : ∀ (m k : Nat) (e1 e2 e3 e4 e5 : Int32) (f1 f2 f3 f4 f5 f6 f7 f8 f9 f10 f11 : Nat → Int32), k ≤ 3 → 3 - k < m → wq_X4_lineDigest_17 f_this_events c_this_told c_this_head c_this_eventKind c_this_eventAt c_this_eventNozzle (nI y) post Ke_65 m (fo (gH s y) h0 k) (nI k) e1 e2 e3 e4 e5 f1 f2 f3 f4 f5 f6 f7 f8 f9 f10 f11 := by
  have H := I.2.1.1
  obtain ⟨a0, a1, a2, a3, a4, a5, a6, a7, a8⟩ := id H
  intro m
  induction m with
  | zero => intro k e1 e2 e3 e4 e5 f1 f2 f3 f4 f5 f6 f7 f8 f9 f10 f11 g1 g2; omega
  | succ m ih =>
    intro k e1 e2 e3 e4 e5 f1 f2 f3 f4 f5 f6 f7 f8 f9 f10 f11 g1 g2
    unfold wq_X4_lineDigest_17
    rw [show ((3 : Int32) ≤ nI k) ↔ 3 ≤ k from nI_leI (a := 3) (by omega) (by omega)]
    refine ⟨fun q => ?_, fun q => ?_⟩
    · have e : k = 3 := by omega
      rw [e]; exact hK _ _ _ _ _ _ _ _ _ _ _ _ _ _ _ _ 
    · intro v hv; subst hv
      refine r_hitOf (w := 0) I hy (by omega) (by omega) (fun u => ?_)
      intro v hv; subst hv
      intro v hv; subst hv
      refine r_hitOf (w := 1) I hy (by omega) (by omega) (fun u => ?_)
      rw [forall_eq, forall_eq, nI_1]
      exact ih (k + 1) _ _ _ _ _ _ _ _ _ _ _ _ _ _ _ _ (by omega) (by omega)
theorem r_ld_he {d s : Nat → Nat} {n : Nat} {ek ea en : Nat → Nat} {y : Nat} {h0 : Int64} {f_this_events : Int32} {c_this_told : Nat → Int32} {c_this_head : Nat → Int32} {c_this_eventKind : Nat → Int32} {c_this_eventAt : Nat → Int32} {c_this_eventNozzle : Nat → Int32} {post : Int64 → (Int32 × Int32 × Int32 × Int32 × Int32 × (Nat → Int32) × (Nat → Int32) × (Nat → Int32) × (Nat → Int32) × (Nat → Int32) × (Nat → Int32) × (Nat → Int32) × (Nat → Int32) × (Nat → Int32) × (Nat → Int32) × (Nat → Int32)) → Prop} {Ke_65 : Int64 → (Int32) → (Int32) → (Int32) → (Int32) → (Int32) → (Nat → Int32) → (Nat → Int32) → (Nat → Int32) → (Nat → Int32) → (Nat → Int32) → (Nat → Int32) → (Nat → Int32) → (Nat → Int32) → (Nat → Int32) → (Nat → Int32) → (Nat → Int32) → Prop} (I : RefI d s n ek ea en c_this_told c_this_head f_this_events c_this_eventKind c_this_eventAt c_this_eventNozzle) (hy : y < 16) (hK : ∀ (e1 e2 e3 e4 e5 : Int32) (f1 f2 f3 f4 f5 f6 f7 f8 f9 f10 f11 : Nat → Int32), Ke_65 (fo (gH s y) h0 (3)) e1 e2 e3 e4 e5 f1 f2 f3 f4 f5 f6 f7 f8 f9 f10 f11) (e1 e2 e3 e4 e5 : Int32) (f1 f2 f3 f4 f5 f6 f7 f8 f9 f10 f11 : Nat → Int32) : ∃ m, wq_X4_lineDigest_17 f_this_events c_this_told c_this_head c_this_eventKind c_this_eventAt c_this_eventNozzle (nI y) post Ke_65 m h0 0 e1 e2 e3 e4 e5 f1 f2 f3 f4 f5 f6 f7 f8 f9 f10 f11 := ⟨3 + 1, r_ld_h I hy hK (3 + 1) 0 _ _ _ _ _ _ _ _ _ _ _ _ _ _ _ _  (by omega) (by omega)⟩

theorem r_ld_b {d s : Nat → Nat} {n : Nat} {ek ea en : Nat → Nat} {y : Nat} {h0 : Int64} {f_this_events : Int32} {c_this_told : Nat → Int32} {c_this_head : Nat → Int32} {c_this_eventKind : Nat → Int32} {c_this_eventAt : Nat → Int32} {c_this_eventNozzle : Nat → Int32} {post : Int64 → (Int32 × Int32 × Int32 × Int32 × Int32 × (Nat → Int32) × (Nat → Int32) × (Nat → Int32) × (Nat → Int32) × (Nat → Int32) × (Nat → Int32) × (Nat → Int32) × (Nat → Int32) × (Nat → Int32) × (Nat → Int32) × (Nat → Int32)) → Prop} {Ke_135 : Int64 → (Int32) → (Int32) → (Int32) → (Int32) → (Int32) → (Nat → Int32) → (Nat → Int32) → (Nat → Int32) → (Nat → Int32) → (Nat → Int32) → (Nat → Int32) → (Nat → Int32) → (Nat → Int32) → (Nat → Int32) → (Nat → Int32) → (Nat → Int32) → Prop} (I : RefI d s n ek ea en c_this_told c_this_head f_this_events c_this_eventKind c_this_eventAt c_this_eventNozzle) (hy : y < 16) (hK : ∀ (e1 e2 e3 e4 e5 : Int32) (f1 f2 f3 f4 f5 f6 f7 f8 f9 f10 f11 : Nat → Int32), Ke_135 (fo (gB8 s (al0 n ek ea en) d y) h0 (8)) e1 e2 e3 e4 e5 f1 f2 f3 f4 f5 f6 f7 f8 f9 f10 f11) : ∀ (m k : Nat) (e1 e2 e3 e4 e5 : Int32) (f1 f2 f3 f4 f5 f6 f7 f8 f9 f10 f11 : Nat → Int32), k ≤ 8 → 8 - k < m → wq_X4_lineDigest_68 f_this_events c_this_told c_this_head c_this_eventKind c_this_eventAt c_this_eventNozzle (nI y) post Ke_135 m (fo (gB8 s (al0 n ek ea en) d y) h0 k) (nI k) e1 e2 e3 e4 e5 f1 f2 f3 f4 f5 f6 f7 f8 f9 f10 f11 := by
  have H := I.2.1.1
  obtain ⟨a0, a1, a2, a3, a4, a5, a6, a7, a8⟩ := id H
  intro m
  induction m with
  | zero => intro k e1 e2 e3 e4 e5 f1 f2 f3 f4 f5 f6 f7 f8 f9 f10 f11 g1 g2; omega
  | succ m ih =>
    intro k e1 e2 e3 e4 e5 f1 f2 f3 f4 f5 f6 f7 f8 f9 f10 f11 g1 g2
    unfold wq_X4_lineDigest_68
    rw [show ((8 : Int32) ≤ nI k) ↔ 8 ≤ k from nI_leI (a := 8) (by omega) (by omega)]
    refine ⟨fun q => ?_, fun q => ?_⟩
    · have e : k = 8 := by omega
      rw [e]; exact hK _ _ _ _ _ _ _ _ _ _ _ _ _ _ _ _ 
    · have b93 : ∀ (hq : k = 0 ∨ k = 3 ∨ k = 7), wq_X4_lineDigest_93 f_this_events c_this_told c_this_head c_this_eventKind c_this_eventAt c_this_eventNozzle (nI y) post (wq_X4_lineDigest_68 f_this_events c_this_told c_this_head c_this_eventKind c_this_eventAt c_this_eventNozzle (nI y) post Ke_135 m) Ke_135 (fo (gB8 s (al0 n ek ea en) d y) h0 k) (nI k) e1 e2 e3 e4 e5 f1 f2 f3 f4 f5 f6 f7 f8 f9 f10 f11 := by
        intro hq
        unfold wq_X4_lineDigest_93
        intro v hv; subst hv
        refine r_byOf (w := 0) I hy (by omega) (by omega) (fun u => ?_)
        intro v hv; subst hv
        intro v hv; subst hv
        refine r_byOf (w := 1) I hy (by omega) (by omega) (fun u => ?_)
        rw [forall_eq, forall_eq, nI_1]
        have st := ih (k + 1) u.1 u.2.1 u.2.2.1 u.2.2.2.1 u.2.2.2.2.1 u.2.2.2.2.2.1 u.2.2.2.2.2.2.1 u.2.2.2.2.2.2.2.1 u.2.2.2.2.2.2.2.2.1 u.2.2.2.2.2.2.2.2.2.1 u.2.2.2.2.2.2.2.2.2.2.1 u.2.2.2.2.2.2.2.2.2.2.2.1 u.2.2.2.2.2.2.2.2.2.2.2.2.1 u.2.2.2.2.2.2.2.2.2.2.2.2.2.1 u.2.2.2.2.2.2.2.2.2.2.2.2.2.2.1 u.2.2.2.2.2.2.2.2.2.2.2.2.2.2.2 (by omega) (by omega)
        rw [fo_s] at st
        have e : gB8 s (al0 n ek ea en) d y k (fo (gB8 s (al0 n ek ea en) d y) h0 k) = gB s (al0 n ek ea en) d y k (fo (gB8 s (al0 n ek ea en) d y) h0 k) := by
          unfold gB8
          rcases hq with e | e | e
          · rw [if_pos e]
          · rw [if_neg (by omega), if_pos e]
          · rw [if_neg (by omega), if_neg (by omega), if_pos e]
        rw [e] at st
        exact st
      rw [show (nI k = 0) ↔ k = 0 from nI_eq (b := 0) (by omega) (by omega), show (nI k = 3) ↔ k = 3 from nI_eq (b := 3) (by omega) (by omega), show (nI k = 7) ↔ k = 7 from nI_eq (b := 7) (by omega) (by omega)]
      refine ⟨fun c => b93 (Or.inl c), fun c => ⟨fun c2 => b93 (Or.inr (Or.inl c2)), fun c2 => ⟨fun c3 => ?_, fun c3 => b93 (Or.inr (Or.inr c3))⟩⟩⟩
      rw [forall_eq, nI_1]
      have st := ih (k + 1) e1 e2 e3 e4 e5 f1 f2 f3 f4 f5 f6 f7 f8 f9 f10 f11 (by omega) (by omega)
      rw [fo_s] at st
      have e : gB8 s (al0 n ek ea en) d y k (fo (gB8 s (al0 n ek ea en) d y) h0 k) = fo (gB8 s (al0 n ek ea en) d y) h0 k := by
        rw [gB8, if_neg c, if_neg c2, if_neg c3]
      rw [e] at st
      exact st
theorem r_ld_be {d s : Nat → Nat} {n : Nat} {ek ea en : Nat → Nat} {y : Nat} {h0 : Int64} {f_this_events : Int32} {c_this_told : Nat → Int32} {c_this_head : Nat → Int32} {c_this_eventKind : Nat → Int32} {c_this_eventAt : Nat → Int32} {c_this_eventNozzle : Nat → Int32} {post : Int64 → (Int32 × Int32 × Int32 × Int32 × Int32 × (Nat → Int32) × (Nat → Int32) × (Nat → Int32) × (Nat → Int32) × (Nat → Int32) × (Nat → Int32) × (Nat → Int32) × (Nat → Int32) × (Nat → Int32) × (Nat → Int32) × (Nat → Int32)) → Prop} {Ke_135 : Int64 → (Int32) → (Int32) → (Int32) → (Int32) → (Int32) → (Nat → Int32) → (Nat → Int32) → (Nat → Int32) → (Nat → Int32) → (Nat → Int32) → (Nat → Int32) → (Nat → Int32) → (Nat → Int32) → (Nat → Int32) → (Nat → Int32) → (Nat → Int32) → Prop} (I : RefI d s n ek ea en c_this_told c_this_head f_this_events c_this_eventKind c_this_eventAt c_this_eventNozzle) (hy : y < 16) (hK : ∀ (e1 e2 e3 e4 e5 : Int32) (f1 f2 f3 f4 f5 f6 f7 f8 f9 f10 f11 : Nat → Int32), Ke_135 (fo (gB8 s (al0 n ek ea en) d y) h0 (8)) e1 e2 e3 e4 e5 f1 f2 f3 f4 f5 f6 f7 f8 f9 f10 f11) (e1 e2 e3 e4 e5 : Int32) (f1 f2 f3 f4 f5 f6 f7 f8 f9 f10 f11 : Nat → Int32) : ∃ m, wq_X4_lineDigest_68 f_this_events c_this_told c_this_head c_this_eventKind c_this_eventAt c_this_eventNozzle (nI y) post Ke_135 m h0 0 e1 e2 e3 e4 e5 f1 f2 f3 f4 f5 f6 f7 f8 f9 f10 f11 := ⟨8 + 1, r_ld_b I hy hK (8 + 1) 0 _ _ _ _ _ _ _ _ _ _ _ _ _ _ _ _  (by omega) (by omega)⟩

theorem r_lineDigest {d s : Nat → Nat} {n : Nat} {ek ea en : Nat → Nat} {y : Nat} {x1 : Int64} {f_this_events : Int32} {f_this_notEvents : Int32} {f_this_deadNow : Int32} {f_this_allMissed : Int32} {f_this_allWanted : Int32} {f_this_allPrinted : Int32} {c_this_told : Nat → Int32} {c_this_head : Nat → Int32} {c_this_eventKind : Nat → Int32} {c_this_eventAt : Nat → Int32} {c_this_eventNozzle : Nat → Int32} {c_this_dots : Nat → Int32} {c_this_now : Nat → Int32} {c_this_hitMany : Nat → Int32} {c_this_hitPass : Nat → Int32} {c_this_hitNozzle : Nat → Int32} {c_this_hitPrints : Nat → Int32} {c_this_canMany : Nat → Int32} {c_this_printedBy : Nat → Int32} {c_this_missing : Nat → Int32} {c_this_prints : Nat → Int32} {c_this_gutter : Nat → Int32} {post : Int64 → (Int32 × Int32 × Int32 × Int32 × Int32 × (Nat → Int32) × (Nat → Int32) × (Nat → Int32) × (Nat → Int32) × (Nat → Int32) × (Nat → Int32) × (Nat → Int32) × (Nat → Int32) × (Nat → Int32) × (Nat → Int32) × (Nat → Int32)) → Prop} (I : RefI d s n ek ea en c_this_told c_this_head f_this_events c_this_eventKind c_this_eventAt c_this_eventNozzle) (hy : y < 16) (h : ∀ u, post (gL s (al0 n ek ea en) d y x1) u) : wp_X4_lineDigest x1 (nI y) f_this_events f_this_notEvents f_this_deadNow f_this_allMissed f_this_allWanted f_this_allPrinted c_this_told c_this_head c_this_eventKind c_this_eventAt c_this_eventNozzle c_this_dots c_this_now c_this_hitMany c_this_hitPass c_this_hitNozzle c_this_hitPrints c_this_canMany c_this_printedBy c_this_missing c_this_prints c_this_gutter post := by
  unfold wp_X4_lineDigest
  intro v hv; subst hv
  refine r_hitsOf I hy (fun u => ?_)
  intro v hv; subst hv
  refine r_ld_he I hy (fun e1 e2 e3 e4 e5 f1 f2 f3 f4 f5 f6 f7 f8 f9 f10 f11 => r_ld_be I hy (fun e1 e2 e3 e4 e5 f1 f2 f3 f4 f5 f6 f7 f8 f9 f10 f11 => ?_) _ _ _ _ _ _ _ _ _ _ _ _ _ _ _ _) _ _ _ _ _ _ _ _ _ _ _ _ _ _ _ _
  rw [gB8_8]
  intro v hv; subst hv
  refine r_missedOf I hy (fun u => ?_)
  intro v hv; subst hv
  intro v hv; subst hv
  refine r_doneOf I hy (fun u => ?_)
  have h := h
  unfold gL at h
  exact h _

theorem r_dg_c {d s : Nat → Nat} {n : Nat} {ek ea en : Nat → Nat} {sn : Nat} {sl sm : Nat → Nat} {h0 : Int64} {f_this_events : Int32} {f_this_seens : Int32} {f_this_finding : Int32} {c_this_told : Nat → Int32} {c_this_head : Nat → Int32} {c_this_eventKind : Nat → Int32} {c_this_eventAt : Nat → Int32} {c_this_eventNozzle : Nat → Int32} {c_this_seenLine : Nat → Int32} {c_this_seenMany : Nat → Int32} {c_this_planRow : Nat → Int32} {c_this_missedBy : Nat → Int32} {post : Int64 → (Int32 × Int32 × Int32 × Int32 × Int32 × (Nat → Int32) × (Nat → Int32) × (Nat → Int32) × (Nat → Int32) × (Nat → Int32) × (Nat → Int32) × (Nat → Int32) × (Nat → Int32) × (Nat → Int32) × (Nat → Int32) × (Nat → Int32) × (Nat → Int32) × (Nat → Int32) × (Nat → Int32)) → Prop} {Ke_31 : Int64 → (Int32) → (Int32) → (Int32) → (Int32) → (Int32) → (Nat → Int32) → (Nat → Int32) → (Nat → Int32) → (Nat → Int32) → (Nat → Int32) → (Nat → Int32) → (Nat → Int32) → (Nat → Int32) → (Nat → Int32) → (Nat → Int32) → (Nat → Int32) → (Nat → Int32) → Prop} (I : RefI d s n ek ea en c_this_told c_this_head f_this_events c_this_eventKind c_this_eventAt c_this_eventNozzle) (S : SeenOk sn sl sm f_this_seens c_this_seenLine c_this_seenMany) (hK : ∀ (e1 e2 e3 e4 e5 : Int32) (f1 f2 f3 f4 f5 f6 f7 f8 f9 f10 f11 : Nat → Int32) (f12 : Nat → Int32), Ke_31 (fo (gC d s n ek ea en sn f_this_finding) h0 (8)) e1 e2 e3 e4 e5 f1 f2 f3 f4 f5 f6 f7 f8 f9 f10 f11 f12) : ∀ (m k : Nat) (e1 e2 e3 e4 e5 : Int32) (f1 f2 f3 f4 f5 f6 f7 f8 f9 f10 f11 : Nat → Int32) (f12 : Nat → Int32), k ≤ 8 → 8 - k < m → wq_X4_digest_6 f_this_events f_this_seens f_this_finding c_this_told c_this_head c_this_eventKind c_this_eventAt c_this_eventNozzle c_this_seenLine c_this_seenMany c_this_planRow c_this_missedBy post Ke_31 m (fo (gC d s n ek ea en sn f_this_finding) h0 k) (nI k) e1 e2 e3 e4 e5 f1 f2 f3 f4 f5 f6 f7 f8 f9 f10 f11 f12 := by
  have H := I.2.1.1
  obtain ⟨a0, a1, a2, a3, a4, a5, a6, a7, a8⟩ := id H
  intro m
  induction m with
  | zero => intro k e1 e2 e3 e4 e5 f1 f2 f3 f4 f5 f6 f7 f8 f9 f10 f11 f12 g1 g2; omega
  | succ m ih =>
    intro k e1 e2 e3 e4 e5 f1 f2 f3 f4 f5 f6 f7 f8 f9 f10 f11 f12 g1 g2
    unfold wq_X4_digest_6
    rw [show ((8 : Int32) ≤ nI k) ↔ 8 ≤ k from nI_leI (a := 8) (by omega) (by omega)]
    refine ⟨fun q => ?_, fun q => ?_⟩
    · have e : k = 8 := by omega
      rw [e]; exact hK _ _ _ _ _ _ _ _ _ _ _ _ _ _ _ _ _ 
    · intro v hv; subst hv
      refine r_count I S.2.1 (fun u => ?_)
      rw [forall_eq, forall_eq, nI_1]
      exact ih (k + 1) _ _ _ _ _ _ _ _ _ _ _ _ _ _ _ _ _ (by omega) (by omega)
theorem r_dg_ce {d s : Nat → Nat} {n : Nat} {ek ea en : Nat → Nat} {sn : Nat} {sl sm : Nat → Nat} {h0 : Int64} {f_this_events : Int32} {f_this_seens : Int32} {f_this_finding : Int32} {c_this_told : Nat → Int32} {c_this_head : Nat → Int32} {c_this_eventKind : Nat → Int32} {c_this_eventAt : Nat → Int32} {c_this_eventNozzle : Nat → Int32} {c_this_seenLine : Nat → Int32} {c_this_seenMany : Nat → Int32} {c_this_planRow : Nat → Int32} {c_this_missedBy : Nat → Int32} {post : Int64 → (Int32 × Int32 × Int32 × Int32 × Int32 × (Nat → Int32) × (Nat → Int32) × (Nat → Int32) × (Nat → Int32) × (Nat → Int32) × (Nat → Int32) × (Nat → Int32) × (Nat → Int32) × (Nat → Int32) × (Nat → Int32) × (Nat → Int32) × (Nat → Int32) × (Nat → Int32) × (Nat → Int32)) → Prop} {Ke_31 : Int64 → (Int32) → (Int32) → (Int32) → (Int32) → (Int32) → (Nat → Int32) → (Nat → Int32) → (Nat → Int32) → (Nat → Int32) → (Nat → Int32) → (Nat → Int32) → (Nat → Int32) → (Nat → Int32) → (Nat → Int32) → (Nat → Int32) → (Nat → Int32) → (Nat → Int32) → Prop} (I : RefI d s n ek ea en c_this_told c_this_head f_this_events c_this_eventKind c_this_eventAt c_this_eventNozzle) (S : SeenOk sn sl sm f_this_seens c_this_seenLine c_this_seenMany) (hK : ∀ (e1 e2 e3 e4 e5 : Int32) (f1 f2 f3 f4 f5 f6 f7 f8 f9 f10 f11 : Nat → Int32) (f12 : Nat → Int32), Ke_31 (fo (gC d s n ek ea en sn f_this_finding) h0 (8)) e1 e2 e3 e4 e5 f1 f2 f3 f4 f5 f6 f7 f8 f9 f10 f11 f12) (e1 e2 e3 e4 e5 : Int32) (f1 f2 f3 f4 f5 f6 f7 f8 f9 f10 f11 : Nat → Int32) (f12 : Nat → Int32) : ∃ m, wq_X4_digest_6 f_this_events f_this_seens f_this_finding c_this_told c_this_head c_this_eventKind c_this_eventAt c_this_eventNozzle c_this_seenLine c_this_seenMany c_this_planRow c_this_missedBy post Ke_31 m h0 0 e1 e2 e3 e4 e5 f1 f2 f3 f4 f5 f6 f7 f8 f9 f10 f11 f12 := ⟨8 + 1, r_dg_c I S hK (8 + 1) 0 _ _ _ _ _ _ _ _ _ _ _ _ _ _ _ _ _  (by omega) (by omega)⟩

theorem r_dg_l {d s : Nat → Nat} {n : Nat} {ek ea en : Nat → Nat} {h0 : Int64} {f_this_events : Int32} {f_this_seens : Int32} {f_this_finding : Int32} {c_this_told : Nat → Int32} {c_this_head : Nat → Int32} {c_this_eventKind : Nat → Int32} {c_this_eventAt : Nat → Int32} {c_this_eventNozzle : Nat → Int32} {c_this_seenLine : Nat → Int32} {c_this_seenMany : Nat → Int32} {c_this_able : Nat → Int32} {c_this_planRow : Nat → Int32} {c_this_missedBy : Nat → Int32} {post : Int64 → (Int32 × Int32 × Int32 × Int32 × Int32 × (Nat → Int32) × (Nat → Int32) × (Nat → Int32) × (Nat → Int32) × (Nat → Int32) × (Nat → Int32) × (Nat → Int32) × (Nat → Int32) × (Nat → Int32) × (Nat → Int32) × (Nat → Int32) × (Nat → Int32) × (Nat → Int32) × (Nat → Int32)) → Prop} {Ke_52 : Int64 → (Int32) → (Int32) → (Int32) → (Int32) → (Int32) → (Nat → Int32) → (Nat → Int32) → (Nat → Int32) → (Nat → Int32) → (Nat → Int32) → (Nat → Int32) → (Nat → Int32) → (Nat → Int32) → (Nat → Int32) → (Nat → Int32) → (Nat → Int32) → Prop} (I : RefI d s n ek ea en c_this_told c_this_head f_this_events c_this_eventKind c_this_eventAt c_this_eventNozzle) (hK : ∀ (e1 e2 e3 e4 e5 : Int32) (f1 f2 f3 f4 f5 f6 f7 f8 f9 f10 f11 : Nat → Int32), Ke_52 (fo (gL s (al0 n ek ea en) d) h0 (16)) e1 e2 e3 e4 e5 f1 f2 f3 f4 f5 f6 f7 f8 f9 f10 f11) : ∀ (m k : Nat) (e1 e2 e3 e4 e5 : Int32) (f1 f2 f3 f4 f5 f6 f7 f8 f9 f10 f11 : Nat → Int32), k ≤ 16 → 16 - k < m → wq_X4_digest_33 f_this_events f_this_seens f_this_finding c_this_told c_this_head c_this_eventKind c_this_eventAt c_this_eventNozzle c_this_seenLine c_this_seenMany c_this_able c_this_planRow c_this_missedBy post Ke_52 m (fo (gL s (al0 n ek ea en) d) h0 k) (nI k) e1 e2 e3 e4 e5 f1 f2 f3 f4 f5 f6 f7 f8 f9 f10 f11 := by
  have H := I.2.1.1
  obtain ⟨a0, a1, a2, a3, a4, a5, a6, a7, a8⟩ := id H
  intro m
  induction m with
  | zero => intro k e1 e2 e3 e4 e5 f1 f2 f3 f4 f5 f6 f7 f8 f9 f10 f11 g1 g2; omega
  | succ m ih =>
    intro k e1 e2 e3 e4 e5 f1 f2 f3 f4 f5 f6 f7 f8 f9 f10 f11 g1 g2
    unfold wq_X4_digest_33
    rw [show ((16 : Int32) ≤ nI k) ↔ 16 ≤ k from nI_leI (a := 16) (by omega) (by omega)]
    refine ⟨fun q => ?_, fun q => ?_⟩
    · have e : k = 16 := by omega
      rw [e]; exact hK _ _ _ _ _ _ _ _ _ _ _ _ _ _ _ _ 
    · refine r_lineDigest I (by omega) (fun u => ?_)
      rw [forall_eq, nI_1]
      exact ih (k + 1) _ _ _ _ _ _ _ _ _ _ _ _ _ _ _ _ (by omega) (by omega)
theorem r_dg_le {d s : Nat → Nat} {n : Nat} {ek ea en : Nat → Nat} {h0 : Int64} {f_this_events : Int32} {f_this_seens : Int32} {f_this_finding : Int32} {c_this_told : Nat → Int32} {c_this_head : Nat → Int32} {c_this_eventKind : Nat → Int32} {c_this_eventAt : Nat → Int32} {c_this_eventNozzle : Nat → Int32} {c_this_seenLine : Nat → Int32} {c_this_seenMany : Nat → Int32} {c_this_able : Nat → Int32} {c_this_planRow : Nat → Int32} {c_this_missedBy : Nat → Int32} {post : Int64 → (Int32 × Int32 × Int32 × Int32 × Int32 × (Nat → Int32) × (Nat → Int32) × (Nat → Int32) × (Nat → Int32) × (Nat → Int32) × (Nat → Int32) × (Nat → Int32) × (Nat → Int32) × (Nat → Int32) × (Nat → Int32) × (Nat → Int32) × (Nat → Int32) × (Nat → Int32) × (Nat → Int32)) → Prop} {Ke_52 : Int64 → (Int32) → (Int32) → (Int32) → (Int32) → (Int32) → (Nat → Int32) → (Nat → Int32) → (Nat → Int32) → (Nat → Int32) → (Nat → Int32) → (Nat → Int32) → (Nat → Int32) → (Nat → Int32) → (Nat → Int32) → (Nat → Int32) → (Nat → Int32) → Prop} (I : RefI d s n ek ea en c_this_told c_this_head f_this_events c_this_eventKind c_this_eventAt c_this_eventNozzle) (hK : ∀ (e1 e2 e3 e4 e5 : Int32) (f1 f2 f3 f4 f5 f6 f7 f8 f9 f10 f11 : Nat → Int32), Ke_52 (fo (gL s (al0 n ek ea en) d) h0 (16)) e1 e2 e3 e4 e5 f1 f2 f3 f4 f5 f6 f7 f8 f9 f10 f11) (e1 e2 e3 e4 e5 : Int32) (f1 f2 f3 f4 f5 f6 f7 f8 f9 f10 f11 : Nat → Int32) : ∃ m, wq_X4_digest_33 f_this_events f_this_seens f_this_finding c_this_told c_this_head c_this_eventKind c_this_eventAt c_this_eventNozzle c_this_seenLine c_this_seenMany c_this_able c_this_planRow c_this_missedBy post Ke_52 m h0 0 e1 e2 e3 e4 e5 f1 f2 f3 f4 f5 f6 f7 f8 f9 f10 f11 := ⟨16 + 1, r_dg_l I hK (16 + 1) 0 _ _ _ _ _ _ _ _ _ _ _ _ _ _ _ _  (by omega) (by omega)⟩

theorem r_dg_w {d s : Nat → Nat} {n : Nat} {ek ea en : Nat → Nat} {p j : Nat} {h0 : Int64} {f_this_events : Int32} {f_this_seens : Int32} {f_this_finding : Int32} {c_this_told : Nat → Int32} {c_this_head : Nat → Int32} {c_this_eventKind : Nat → Int32} {c_this_eventAt : Nat → Int32} {c_this_eventNozzle : Nat → Int32} {c_this_seenLine : Nat → Int32} {c_this_seenMany : Nat → Int32} {c_this_able : Nat → Int32} {c_this_planRow : Nat → Int32} {c_this_missedBy : Nat → Int32} {post : Int64 → (Int32 × Int32 × Int32 × Int32 × Int32 × (Nat → Int32) × (Nat → Int32) × (Nat → Int32) × (Nat → Int32) × (Nat → Int32) × (Nat → Int32) × (Nat → Int32) × (Nat → Int32) × (Nat → Int32) × (Nat → Int32) × (Nat → Int32) × (Nat → Int32) × (Nat → Int32) × (Nat → Int32)) → Prop} {Ke_110 : Int64 → (Int32) → (Int32) → (Int32) → (Int32) → (Int32) → (Nat → Int32) → (Nat → Int32) → (Nat → Int32) → (Nat → Int32) → (Nat → Int32) → (Nat → Int32) → (Nat → Int32) → (Nat → Int32) → (Nat → Int32) → (Nat → Int32) → (Nat → Int32) → Prop} (I : RefI d s n ek ea en c_this_told c_this_head f_this_events c_this_eventKind c_this_eventAt c_this_eventNozzle) (hp : p < 12) (hj : j < s 0) (hK : ∀ (e1 e2 e3 e4 e5 : Int32) (f1 f2 f3 f4 f5 f6 f7 f8 f9 f10 f11 : Nat → Int32), Ke_110 (fo (gW s (al0 n ek ea en) d p j) h0 (3)) e1 e2 e3 e4 e5 f1 f2 f3 f4 f5 f6 f7 f8 f9 f10 f11) : ∀ (m k : Nat) (e1 e2 e3 e4 e5 : Int32) (f1 f2 f3 f4 f5 f6 f7 f8 f9 f10 f11 : Nat → Int32), k ≤ 3 → 3 - k < m → wq_X4_digest_81 f_this_events f_this_seens f_this_finding c_this_told c_this_head c_this_eventKind c_this_eventAt c_this_eventNozzle c_this_seenLine c_this_seenMany (nI p) (nI j) c_this_able c_this_planRow c_this_missedBy post Ke_110 m (fo (gW s (al0 n ek ea en) d p j) h0 k) (nI k) e1 e2 e3 e4 e5 f1 f2 f3 f4 f5 f6 f7 f8 f9 f10 f11 := by
  have H := I.2.1.1
  obtain ⟨a0, a1, a2, a3, a4, a5, a6, a7, a8⟩ := id H
  intro m
  induction m with
  | zero => intro k e1 e2 e3 e4 e5 f1 f2 f3 f4 f5 f6 f7 f8 f9 f10 f11 g1 g2; omega
  | succ m ih =>
    intro k e1 e2 e3 e4 e5 f1 f2 f3 f4 f5 f6 f7 f8 f9 f10 f11 g1 g2
    unfold wq_X4_digest_81
    rw [show ((3 : Int32) ≤ nI k) ↔ 3 ≤ k from nI_leI (a := 3) (by omega) (by omega)]
    refine ⟨fun q => ?_, fun q => ?_⟩
    · have e : k = 3 := by omega
      rw [e]; exact hK _ _ _ _ _ _ _ _ _ _ _ _ _ _ _ _ 
    · intro v hv; subst hv
      refine r_passOf I hp hj (by omega) (fun u => ?_)
      rw [forall_eq, forall_eq, nI_1]
      exact ih (k + 1) _ _ _ _ _ _ _ _ _ _ _ _ _ _ _ _ (by omega) (by omega)
theorem r_dg_we {d s : Nat → Nat} {n : Nat} {ek ea en : Nat → Nat} {p j : Nat} {h0 : Int64} {f_this_events : Int32} {f_this_seens : Int32} {f_this_finding : Int32} {c_this_told : Nat → Int32} {c_this_head : Nat → Int32} {c_this_eventKind : Nat → Int32} {c_this_eventAt : Nat → Int32} {c_this_eventNozzle : Nat → Int32} {c_this_seenLine : Nat → Int32} {c_this_seenMany : Nat → Int32} {c_this_able : Nat → Int32} {c_this_planRow : Nat → Int32} {c_this_missedBy : Nat → Int32} {post : Int64 → (Int32 × Int32 × Int32 × Int32 × Int32 × (Nat → Int32) × (Nat → Int32) × (Nat → Int32) × (Nat → Int32) × (Nat → Int32) × (Nat → Int32) × (Nat → Int32) × (Nat → Int32) × (Nat → Int32) × (Nat → Int32) × (Nat → Int32) × (Nat → Int32) × (Nat → Int32) × (Nat → Int32)) → Prop} {Ke_110 : Int64 → (Int32) → (Int32) → (Int32) → (Int32) → (Int32) → (Nat → Int32) → (Nat → Int32) → (Nat → Int32) → (Nat → Int32) → (Nat → Int32) → (Nat → Int32) → (Nat → Int32) → (Nat → Int32) → (Nat → Int32) → (Nat → Int32) → (Nat → Int32) → Prop} (I : RefI d s n ek ea en c_this_told c_this_head f_this_events c_this_eventKind c_this_eventAt c_this_eventNozzle) (hp : p < 12) (hj : j < s 0) (hK : ∀ (e1 e2 e3 e4 e5 : Int32) (f1 f2 f3 f4 f5 f6 f7 f8 f9 f10 f11 : Nat → Int32), Ke_110 (fo (gW s (al0 n ek ea en) d p j) h0 (3)) e1 e2 e3 e4 e5 f1 f2 f3 f4 f5 f6 f7 f8 f9 f10 f11) (e1 e2 e3 e4 e5 : Int32) (f1 f2 f3 f4 f5 f6 f7 f8 f9 f10 f11 : Nat → Int32) : ∃ m, wq_X4_digest_81 f_this_events f_this_seens f_this_finding c_this_told c_this_head c_this_eventKind c_this_eventAt c_this_eventNozzle c_this_seenLine c_this_seenMany (nI p) (nI j) c_this_able c_this_planRow c_this_missedBy post Ke_110 m h0 0 e1 e2 e3 e4 e5 f1 f2 f3 f4 f5 f6 f7 f8 f9 f10 f11 := ⟨3 + 1, r_dg_w I hp hj hK (3 + 1) 0 _ _ _ _ _ _ _ _ _ _ _ _ _ _ _ _  (by omega) (by omega)⟩

theorem r_dg_j {d s : Nat → Nat} {n : Nat} {ek ea en : Nat → Nat} {p : Nat} {h0 : Int64} {f_this_events : Int32} {f_this_seens : Int32} {f_this_finding : Int32} {c_this_told : Nat → Int32} {c_this_head : Nat → Int32} {c_this_eventKind : Nat → Int32} {c_this_eventAt : Nat → Int32} {c_this_eventNozzle : Nat → Int32} {c_this_seenLine : Nat → Int32} {c_this_seenMany : Nat → Int32} {c_this_able : Nat → Int32} {c_this_planRow : Nat → Int32} {c_this_missedBy : Nat → Int32} {post : Int64 → (Int32 × Int32 × Int32 × Int32 × Int32 × (Nat → Int32) × (Nat → Int32) × (Nat → Int32) × (Nat → Int32) × (Nat → Int32) × (Nat → Int32) × (Nat → Int32) × (Nat → Int32) × (Nat → Int32) × (Nat → Int32) × (Nat → Int32) × (Nat → Int32) × (Nat → Int32) × (Nat → Int32)) → Prop} {Ke_116 : Int64 → (Int32) → (Int32) → (Int32) → (Int32) → (Int32) → (Nat → Int32) → (Nat → Int32) → (Nat → Int32) → (Nat → Int32) → (Nat → Int32) → (Nat → Int32) → (Nat → Int32) → (Nat → Int32) → (Nat → Int32) → (Nat → Int32) → (Nat → Int32) → Prop} (I : RefI d s n ek ea en c_this_told c_this_head f_this_events c_this_eventKind c_this_eventAt c_this_eventNozzle) (hp : p < 12) (hK : ∀ (e1 e2 e3 e4 e5 : Int32) (f1 f2 f3 f4 f5 f6 f7 f8 f9 f10 f11 : Nat → Int32), Ke_116 (fo (gJ s (al0 n ek ea en) d p) h0 (s 0)) e1 e2 e3 e4 e5 f1 f2 f3 f4 f5 f6 f7 f8 f9 f10 f11) : ∀ (m k : Nat) (e1 e2 e3 e4 e5 : Int32) (f1 f2 f3 f4 f5 f6 f7 f8 f9 f10 f11 : Nat → Int32), k ≤ s 0 → s 0 - k < m → wq_X4_digest_67 f_this_events f_this_seens f_this_finding c_this_told c_this_head c_this_eventKind c_this_eventAt c_this_eventNozzle c_this_seenLine c_this_seenMany (nI p) c_this_able c_this_planRow c_this_missedBy post Ke_116 m (fo (gJ s (al0 n ek ea en) d p) h0 k) (nI k) e1 e2 e3 e4 e5 f1 f2 f3 f4 f5 f6 f7 f8 f9 f10 f11 := by
  have H := I.2.1.1
  obtain ⟨a0, a1, a2, a3, a4, a5, a6, a7, a8⟩ := id H
  intro m
  induction m with
  | zero => intro k e1 e2 e3 e4 e5 f1 f2 f3 f4 f5 f6 f7 f8 f9 f10 f11 g1 g2; omega
  | succ m ih =>
    intro k e1 e2 e3 e4 e5 f1 f2 f3 f4 f5 f6 f7 f8 f9 f10 f11 g1 g2
    unfold wq_X4_digest_67
    rw [I.2.1.at 0 (by omega) (by omega), nI_leI (by omega) (by omega)]
    refine ⟨fun q => ?_, fun q => ?_⟩
    · have e : k = s 0 := by omega
      rw [e]; exact hK _ _ _ _ _ _ _ _ _ _ _ _ _ _ _ _ 
    · refine r_dg_we I hp (show k < s 0 by omega) (fun e1 e2 e3 e4 e5 f1 f2 f3 f4 f5 f6 f7 f8 f9 f10 f11 => ?_) _ _ _ _ _ _ _ _ _ _ _ _ _ _ _ _ 
      rw [forall_eq, nI_1]
      exact ih (k + 1) _ _ _ _ _ _ _ _ _ _ _ _ _ _ _ _ (by omega) (by omega)
theorem r_dg_je {d s : Nat → Nat} {n : Nat} {ek ea en : Nat → Nat} {p : Nat} {h0 : Int64} {f_this_events : Int32} {f_this_seens : Int32} {f_this_finding : Int32} {c_this_told : Nat → Int32} {c_this_head : Nat → Int32} {c_this_eventKind : Nat → Int32} {c_this_eventAt : Nat → Int32} {c_this_eventNozzle : Nat → Int32} {c_this_seenLine : Nat → Int32} {c_this_seenMany : Nat → Int32} {c_this_able : Nat → Int32} {c_this_planRow : Nat → Int32} {c_this_missedBy : Nat → Int32} {post : Int64 → (Int32 × Int32 × Int32 × Int32 × Int32 × (Nat → Int32) × (Nat → Int32) × (Nat → Int32) × (Nat → Int32) × (Nat → Int32) × (Nat → Int32) × (Nat → Int32) × (Nat → Int32) × (Nat → Int32) × (Nat → Int32) × (Nat → Int32) × (Nat → Int32) × (Nat → Int32) × (Nat → Int32)) → Prop} {Ke_116 : Int64 → (Int32) → (Int32) → (Int32) → (Int32) → (Int32) → (Nat → Int32) → (Nat → Int32) → (Nat → Int32) → (Nat → Int32) → (Nat → Int32) → (Nat → Int32) → (Nat → Int32) → (Nat → Int32) → (Nat → Int32) → (Nat → Int32) → (Nat → Int32) → Prop} (I : RefI d s n ek ea en c_this_told c_this_head f_this_events c_this_eventKind c_this_eventAt c_this_eventNozzle) (hp : p < 12) (hK : ∀ (e1 e2 e3 e4 e5 : Int32) (f1 f2 f3 f4 f5 f6 f7 f8 f9 f10 f11 : Nat → Int32), Ke_116 (fo (gJ s (al0 n ek ea en) d p) h0 (s 0)) e1 e2 e3 e4 e5 f1 f2 f3 f4 f5 f6 f7 f8 f9 f10 f11) (e1 e2 e3 e4 e5 : Int32) (f1 f2 f3 f4 f5 f6 f7 f8 f9 f10 f11 : Nat → Int32) : ∃ m, wq_X4_digest_67 f_this_events f_this_seens f_this_finding c_this_told c_this_head c_this_eventKind c_this_eventAt c_this_eventNozzle c_this_seenLine c_this_seenMany (nI p) c_this_able c_this_planRow c_this_missedBy post Ke_116 m h0 0 e1 e2 e3 e4 e5 f1 f2 f3 f4 f5 f6 f7 f8 f9 f10 f11 := ⟨s 0 + 1, r_dg_j I hp hK (s 0 + 1) 0 _ _ _ _ _ _ _ _ _ _ _ _ _ _ _ _  (by omega) (by omega)⟩

theorem r_dg_p {d s : Nat → Nat} {n : Nat} {ek ea en : Nat → Nat} {h0 : Int64} {f_this_events : Int32} {f_this_seens : Int32} {f_this_finding : Int32} {c_this_told : Nat → Int32} {c_this_head : Nat → Int32} {c_this_eventKind : Nat → Int32} {c_this_eventAt : Nat → Int32} {c_this_eventNozzle : Nat → Int32} {c_this_seenLine : Nat → Int32} {c_this_seenMany : Nat → Int32} {c_this_able : Nat → Int32} {c_this_planRow : Nat → Int32} {c_this_missedBy : Nat → Int32} {post : Int64 → (Int32 × Int32 × Int32 × Int32 × Int32 × (Nat → Int32) × (Nat → Int32) × (Nat → Int32) × (Nat → Int32) × (Nat → Int32) × (Nat → Int32) × (Nat → Int32) × (Nat → Int32) × (Nat → Int32) × (Nat → Int32) × (Nat → Int32) × (Nat → Int32) × (Nat → Int32) × (Nat → Int32)) → Prop} {Ke_122 : Int64 → (Int32) → (Int32) → (Int32) → (Int32) → (Int32) → (Nat → Int32) → (Nat → Int32) → (Nat → Int32) → (Nat → Int32) → (Nat → Int32) → (Nat → Int32) → (Nat → Int32) → (Nat → Int32) → (Nat → Int32) → (Nat → Int32) → (Nat → Int32) → Prop} (I : RefI d s n ek ea en c_this_told c_this_head f_this_events c_this_eventKind c_this_eventAt c_this_eventNozzle) (hK : ∀ (e1 e2 e3 e4 e5 : Int32) (f1 f2 f3 f4 f5 f6 f7 f8 f9 f10 f11 : Nat → Int32), Ke_122 (fo (gP s (al0 n ek ea en) d) h0 (s 3)) e1 e2 e3 e4 e5 f1 f2 f3 f4 f5 f6 f7 f8 f9 f10 f11) : ∀ (m k : Nat) (e1 e2 e3 e4 e5 : Int32) (f1 f2 f3 f4 f5 f6 f7 f8 f9 f10 f11 : Nat → Int32), k ≤ s 3 → s 3 - k < m → wq_X4_digest_54 f_this_events f_this_seens f_this_finding c_this_told c_this_head c_this_eventKind c_this_eventAt c_this_eventNozzle c_this_seenLine c_this_seenMany c_this_able c_this_planRow c_this_missedBy post Ke_122 m (fo (gP s (al0 n ek ea en) d) h0 k) (nI k) e1 e2 e3 e4 e5 f1 f2 f3 f4 f5 f6 f7 f8 f9 f10 f11 := by
  have H := I.2.1.1
  obtain ⟨a0, a1, a2, a3, a4, a5, a6, a7, a8⟩ := id H
  intro m
  induction m with
  | zero => intro k e1 e2 e3 e4 e5 f1 f2 f3 f4 f5 f6 f7 f8 f9 f10 f11 g1 g2; omega
  | succ m ih =>
    intro k e1 e2 e3 e4 e5 f1 f2 f3 f4 f5 f6 f7 f8 f9 f10 f11 g1 g2
    unfold wq_X4_digest_54
    rw [I.2.1.at 3 (by omega) (by omega), nI_leI (by omega) (by omega)]
    refine ⟨fun q => ?_, fun q => ?_⟩
    · have e : k = s 3 := by omega
      rw [e]; exact hK _ _ _ _ _ _ _ _ _ _ _ _ _ _ _ _ 
    · refine r_dg_je I (show k < 12 by omega) (fun e1 e2 e3 e4 e5 f1 f2 f3 f4 f5 f6 f7 f8 f9 f10 f11 => ?_) _ _ _ _ _ _ _ _ _ _ _ _ _ _ _ _ 
      rw [forall_eq, nI_1]
      exact ih (k + 1) _ _ _ _ _ _ _ _ _ _ _ _ _ _ _ _ (by omega) (by omega)
theorem r_dg_pe {d s : Nat → Nat} {n : Nat} {ek ea en : Nat → Nat} {h0 : Int64} {f_this_events : Int32} {f_this_seens : Int32} {f_this_finding : Int32} {c_this_told : Nat → Int32} {c_this_head : Nat → Int32} {c_this_eventKind : Nat → Int32} {c_this_eventAt : Nat → Int32} {c_this_eventNozzle : Nat → Int32} {c_this_seenLine : Nat → Int32} {c_this_seenMany : Nat → Int32} {c_this_able : Nat → Int32} {c_this_planRow : Nat → Int32} {c_this_missedBy : Nat → Int32} {post : Int64 → (Int32 × Int32 × Int32 × Int32 × Int32 × (Nat → Int32) × (Nat → Int32) × (Nat → Int32) × (Nat → Int32) × (Nat → Int32) × (Nat → Int32) × (Nat → Int32) × (Nat → Int32) × (Nat → Int32) × (Nat → Int32) × (Nat → Int32) × (Nat → Int32) × (Nat → Int32) × (Nat → Int32)) → Prop} {Ke_122 : Int64 → (Int32) → (Int32) → (Int32) → (Int32) → (Int32) → (Nat → Int32) → (Nat → Int32) → (Nat → Int32) → (Nat → Int32) → (Nat → Int32) → (Nat → Int32) → (Nat → Int32) → (Nat → Int32) → (Nat → Int32) → (Nat → Int32) → (Nat → Int32) → Prop} (I : RefI d s n ek ea en c_this_told c_this_head f_this_events c_this_eventKind c_this_eventAt c_this_eventNozzle) (hK : ∀ (e1 e2 e3 e4 e5 : Int32) (f1 f2 f3 f4 f5 f6 f7 f8 f9 f10 f11 : Nat → Int32), Ke_122 (fo (gP s (al0 n ek ea en) d) h0 (s 3)) e1 e2 e3 e4 e5 f1 f2 f3 f4 f5 f6 f7 f8 f9 f10 f11) (e1 e2 e3 e4 e5 : Int32) (f1 f2 f3 f4 f5 f6 f7 f8 f9 f10 f11 : Nat → Int32) : ∃ m, wq_X4_digest_54 f_this_events f_this_seens f_this_finding c_this_told c_this_head c_this_eventKind c_this_eventAt c_this_eventNozzle c_this_seenLine c_this_seenMany c_this_able c_this_planRow c_this_missedBy post Ke_122 m h0 0 e1 e2 e3 e4 e5 f1 f2 f3 f4 f5 f6 f7 f8 f9 f10 f11 := ⟨s 3 + 1, r_dg_p I hK (s 3 + 1) 0 _ _ _ _ _ _ _ _ _ _ _ _ _ _ _ _  (by omega) (by omega)⟩

theorem r_dg_d {d s : Nat → Nat} {n : Nat} {ek ea en : Nat → Nat} {h0 : Int64} {f_this_events : Int32} {f_this_seens : Int32} {f_this_finding : Int32} {c_this_told : Nat → Int32} {c_this_head : Nat → Int32} {c_this_eventKind : Nat → Int32} {c_this_eventAt : Nat → Int32} {c_this_eventNozzle : Nat → Int32} {c_this_seenLine : Nat → Int32} {c_this_seenMany : Nat → Int32} {c_this_able : Nat → Int32} {c_this_planRow : Nat → Int32} {c_this_missedBy : Nat → Int32} {post : Int64 → (Int32 × Int32 × Int32 × Int32 × Int32 × (Nat → Int32) × (Nat → Int32) × (Nat → Int32) × (Nat → Int32) × (Nat → Int32) × (Nat → Int32) × (Nat → Int32) × (Nat → Int32) × (Nat → Int32) × (Nat → Int32) × (Nat → Int32) × (Nat → Int32) × (Nat → Int32) × (Nat → Int32)) → Prop} {Ke_153 : Int64 → (Int32) → (Int32) → (Int32) → (Int32) → (Int32) → (Nat → Int32) → (Nat → Int32) → (Nat → Int32) → (Nat → Int32) → (Nat → Int32) → (Nat → Int32) → (Nat → Int32) → (Nat → Int32) → (Nat → Int32) → (Nat → Int32) → (Nat → Int32) → Prop} (I : RefI d s n ek ea en c_this_told c_this_head f_this_events c_this_eventKind c_this_eventAt c_this_eventNozzle) (hK : ∀ (e1 e2 e3 e4 e5 : Int32) (f1 f2 f3 f4 f5 f6 f7 f8 f9 f10 f11 : Nat → Int32), Ke_153 (fo (gD s (al0 n ek ea en) d) h0 (s 0)) e1 e2 e3 e4 e5 f1 f2 f3 f4 f5 f6 f7 f8 f9 f10 f11) : ∀ (m k : Nat) (e1 e2 e3 e4 e5 : Int32) (f1 f2 f3 f4 f5 f6 f7 f8 f9 f10 f11 : Nat → Int32), k ≤ s 0 → s 0 - k < m → wq_X4_digest_124 f_this_events f_this_seens f_this_finding c_this_told c_this_head c_this_eventKind c_this_eventAt c_this_eventNozzle c_this_seenLine c_this_seenMany c_this_able c_this_planRow c_this_missedBy post Ke_153 m (fo (gD s (al0 n ek ea en) d) h0 k) (nI k) e1 e2 e3 e4 e5 f1 f2 f3 f4 f5 f6 f7 f8 f9 f10 f11 := by
  have H := I.2.1.1
  obtain ⟨a0, a1, a2, a3, a4, a5, a6, a7, a8⟩ := id H
  intro m
  induction m with
  | zero => intro k e1 e2 e3 e4 e5 f1 f2 f3 f4 f5 f6 f7 f8 f9 f10 f11 g1 g2; omega
  | succ m ih =>
    intro k e1 e2 e3 e4 e5 f1 f2 f3 f4 f5 f6 f7 f8 f9 f10 f11 g1 g2
    unfold wq_X4_digest_124
    rw [I.2.1.at 0 (by omega) (by omega), nI_leI (by omega) (by omega)]
    refine ⟨fun q => ?_, fun q => ?_⟩
    · have e : k = s 0 := by omega
      rw [e]; exact hK _ _ _ _ _ _ _ _ _ _ _ _ _ _ _ _ 
    · intro v hv; subst hv
      refine r_dropsOf I (by omega) (fun u => ?_)
      rw [forall_eq, forall_eq, nI_1]
      exact ih (k + 1) _ _ _ _ _ _ _ _ _ _ _ _ _ _ _ _ (by omega) (by omega)
theorem r_dg_de {d s : Nat → Nat} {n : Nat} {ek ea en : Nat → Nat} {h0 : Int64} {f_this_events : Int32} {f_this_seens : Int32} {f_this_finding : Int32} {c_this_told : Nat → Int32} {c_this_head : Nat → Int32} {c_this_eventKind : Nat → Int32} {c_this_eventAt : Nat → Int32} {c_this_eventNozzle : Nat → Int32} {c_this_seenLine : Nat → Int32} {c_this_seenMany : Nat → Int32} {c_this_able : Nat → Int32} {c_this_planRow : Nat → Int32} {c_this_missedBy : Nat → Int32} {post : Int64 → (Int32 × Int32 × Int32 × Int32 × Int32 × (Nat → Int32) × (Nat → Int32) × (Nat → Int32) × (Nat → Int32) × (Nat → Int32) × (Nat → Int32) × (Nat → Int32) × (Nat → Int32) × (Nat → Int32) × (Nat → Int32) × (Nat → Int32) × (Nat → Int32) × (Nat → Int32) × (Nat → Int32)) → Prop} {Ke_153 : Int64 → (Int32) → (Int32) → (Int32) → (Int32) → (Int32) → (Nat → Int32) → (Nat → Int32) → (Nat → Int32) → (Nat → Int32) → (Nat → Int32) → (Nat → Int32) → (Nat → Int32) → (Nat → Int32) → (Nat → Int32) → (Nat → Int32) → (Nat → Int32) → Prop} (I : RefI d s n ek ea en c_this_told c_this_head f_this_events c_this_eventKind c_this_eventAt c_this_eventNozzle) (hK : ∀ (e1 e2 e3 e4 e5 : Int32) (f1 f2 f3 f4 f5 f6 f7 f8 f9 f10 f11 : Nat → Int32), Ke_153 (fo (gD s (al0 n ek ea en) d) h0 (s 0)) e1 e2 e3 e4 e5 f1 f2 f3 f4 f5 f6 f7 f8 f9 f10 f11) (e1 e2 e3 e4 e5 : Int32) (f1 f2 f3 f4 f5 f6 f7 f8 f9 f10 f11 : Nat → Int32) : ∃ m, wq_X4_digest_124 f_this_events f_this_seens f_this_finding c_this_told c_this_head c_this_eventKind c_this_eventAt c_this_eventNozzle c_this_seenLine c_this_seenMany c_this_able c_this_planRow c_this_missedBy post Ke_153 m h0 0 e1 e2 e3 e4 e5 f1 f2 f3 f4 f5 f6 f7 f8 f9 f10 f11 := ⟨s 0 + 1, r_dg_d I hK (s 0 + 1) 0 _ _ _ _ _ _ _ _ _ _ _ _ _ _ _ _  (by omega) (by omega)⟩

theorem r_dg_s {d s : Nat → Nat} {n : Nat} {ek ea en : Nat → Nat} {h0 : Int64} {f_this_events : Int32} {f_this_seens : Int32} {f_this_finding : Int32} {c_this_told : Nat → Int32} {c_this_head : Nat → Int32} {c_this_eventKind : Nat → Int32} {c_this_eventAt : Nat → Int32} {c_this_eventNozzle : Nat → Int32} {c_this_seenLine : Nat → Int32} {c_this_seenMany : Nat → Int32} {c_this_able : Nat → Int32} {c_this_planRow : Nat → Int32} {c_this_missedBy : Nat → Int32} {post : Int64 → (Int32 × Int32 × Int32 × Int32 × Int32 × (Nat → Int32) × (Nat → Int32) × (Nat → Int32) × (Nat → Int32) × (Nat → Int32) × (Nat → Int32) × (Nat → Int32) × (Nat → Int32) × (Nat → Int32) × (Nat → Int32) × (Nat → Int32) × (Nat → Int32) × (Nat → Int32) × (Nat → Int32)) → Prop} {Ke_179 : Int64 → (Int32) → (Int32) → (Int32) → (Int32) → (Int32) → (Nat → Int32) → (Nat → Int32) → (Nat → Int32) → (Nat → Int32) → (Nat → Int32) → (Nat → Int32) → (Nat → Int32) → (Nat → Int32) → (Nat → Int32) → (Nat → Int32) → (Nat → Int32) → Prop} (I : RefI d s n ek ea en c_this_told c_this_head f_this_events c_this_eventKind c_this_eventAt c_this_eventNozzle) (hK : ∀ (e1 e2 e3 e4 e5 : Int32) (f1 f2 f3 f4 f5 f6 f7 f8 f9 f10 f11 : Nat → Int32), Ke_179 (fo (gS s (al0 n ek ea en) d) h0 (4)) e1 e2 e3 e4 e5 f1 f2 f3 f4 f5 f6 f7 f8 f9 f10 f11) : ∀ (m k : Nat) (e1 e2 e3 e4 e5 : Int32) (f1 f2 f3 f4 f5 f6 f7 f8 f9 f10 f11 : Nat → Int32), k ≤ 4 → 4 - k < m → wq_X4_digest_155 f_this_events f_this_seens f_this_finding c_this_told c_this_head c_this_eventKind c_this_eventAt c_this_eventNozzle c_this_seenLine c_this_seenMany c_this_able c_this_planRow c_this_missedBy post Ke_179 m (fo (gS s (al0 n ek ea en) d) h0 k) (nI k) e1 e2 e3 e4 e5 f1 f2 f3 f4 f5 f6 f7 f8 f9 f10 f11 := by
  have H := I.2.1.1
  obtain ⟨a0, a1, a2, a3, a4, a5, a6, a7, a8⟩ := id H
  intro m
  induction m with
  | zero => intro k e1 e2 e3 e4 e5 f1 f2 f3 f4 f5 f6 f7 f8 f9 f10 f11 g1 g2; omega
  | succ m ih =>
    intro k e1 e2 e3 e4 e5 f1 f2 f3 f4 f5 f6 f7 f8 f9 f10 f11 g1 g2
    unfold wq_X4_digest_155
    rw [show ((4 : Int32) ≤ nI k) ↔ 4 ≤ k from nI_leI (a := 4) (by omega) (by omega)]
    refine ⟨fun q => ?_, fun q => ?_⟩
    · have e : k = 4 := by omega
      rw [e]; exact hK _ _ _ _ _ _ _ _ _ _ _ _ _ _ _ _ 
    · intro v hv; subst hv
      refine r_sumOf I (by omega) (fun u => ?_)
      rw [forall_eq, forall_eq, nI_1]
      exact ih (k + 1) _ _ _ _ _ _ _ _ _ _ _ _ _ _ _ _ (by omega) (by omega)
theorem r_dg_se {d s : Nat → Nat} {n : Nat} {ek ea en : Nat → Nat} {h0 : Int64} {f_this_events : Int32} {f_this_seens : Int32} {f_this_finding : Int32} {c_this_told : Nat → Int32} {c_this_head : Nat → Int32} {c_this_eventKind : Nat → Int32} {c_this_eventAt : Nat → Int32} {c_this_eventNozzle : Nat → Int32} {c_this_seenLine : Nat → Int32} {c_this_seenMany : Nat → Int32} {c_this_able : Nat → Int32} {c_this_planRow : Nat → Int32} {c_this_missedBy : Nat → Int32} {post : Int64 → (Int32 × Int32 × Int32 × Int32 × Int32 × (Nat → Int32) × (Nat → Int32) × (Nat → Int32) × (Nat → Int32) × (Nat → Int32) × (Nat → Int32) × (Nat → Int32) × (Nat → Int32) × (Nat → Int32) × (Nat → Int32) × (Nat → Int32) × (Nat → Int32) × (Nat → Int32) × (Nat → Int32)) → Prop} {Ke_179 : Int64 → (Int32) → (Int32) → (Int32) → (Int32) → (Int32) → (Nat → Int32) → (Nat → Int32) → (Nat → Int32) → (Nat → Int32) → (Nat → Int32) → (Nat → Int32) → (Nat → Int32) → (Nat → Int32) → (Nat → Int32) → (Nat → Int32) → (Nat → Int32) → Prop} (I : RefI d s n ek ea en c_this_told c_this_head f_this_events c_this_eventKind c_this_eventAt c_this_eventNozzle) (hK : ∀ (e1 e2 e3 e4 e5 : Int32) (f1 f2 f3 f4 f5 f6 f7 f8 f9 f10 f11 : Nat → Int32), Ke_179 (fo (gS s (al0 n ek ea en) d) h0 (4)) e1 e2 e3 e4 e5 f1 f2 f3 f4 f5 f6 f7 f8 f9 f10 f11) (e1 e2 e3 e4 e5 : Int32) (f1 f2 f3 f4 f5 f6 f7 f8 f9 f10 f11 : Nat → Int32) : ∃ m, wq_X4_digest_155 f_this_events f_this_seens f_this_finding c_this_told c_this_head c_this_eventKind c_this_eventAt c_this_eventNozzle c_this_seenLine c_this_seenMany c_this_able c_this_planRow c_this_missedBy post Ke_179 m h0 0 e1 e2 e3 e4 e5 f1 f2 f3 f4 f5 f6 f7 f8 f9 f10 f11 := ⟨4 + 1, r_dg_s I hK (4 + 1) 0 _ _ _ _ _ _ _ _ _ _ _ _ _ _ _ _  (by omega) (by omega)⟩

theorem r_dg_e {d s : Nat → Nat} {n : Nat} {ek ea en : Nat → Nat} {h0 : Int64} {f_this_events : Int32} {f_this_seens : Int32} {f_this_finding : Int32} {c_this_told : Nat → Int32} {c_this_head : Nat → Int32} {c_this_eventKind : Nat → Int32} {c_this_eventAt : Nat → Int32} {c_this_eventNozzle : Nat → Int32} {c_this_seenLine : Nat → Int32} {c_this_seenMany : Nat → Int32} {c_this_able : Nat → Int32} {c_this_planRow : Nat → Int32} {c_this_missedBy : Nat → Int32} {post : Int64 → (Int32 × Int32 × Int32 × Int32 × Int32 × (Nat → Int32) × (Nat → Int32) × (Nat → Int32) × (Nat → Int32) × (Nat → Int32) × (Nat → Int32) × (Nat → Int32) × (Nat → Int32) × (Nat → Int32) × (Nat → Int32) × (Nat → Int32) × (Nat → Int32) × (Nat → Int32) × (Nat → Int32)) → Prop} {Ke_205 : Int64 → (Int32) → (Int32) → (Int32) → (Int32) → (Int32) → (Nat → Int32) → (Nat → Int32) → (Nat → Int32) → (Nat → Int32) → (Nat → Int32) → (Nat → Int32) → (Nat → Int32) → (Nat → Int32) → (Nat → Int32) → (Nat → Int32) → (Nat → Int32) → Prop} (I : RefI d s n ek ea en c_this_told c_this_head f_this_events c_this_eventKind c_this_eventAt c_this_eventNozzle) (hK : ∀ (e1 e2 e3 e4 e5 : Int32) (f1 f2 f3 f4 f5 f6 f7 f8 f9 f10 f11 : Nat → Int32), Ke_205 (fo (gE s) h0 (3)) e1 e2 e3 e4 e5 f1 f2 f3 f4 f5 f6 f7 f8 f9 f10 f11) : ∀ (m k : Nat) (e1 e2 e3 e4 e5 : Int32) (f1 f2 f3 f4 f5 f6 f7 f8 f9 f10 f11 : Nat → Int32), k ≤ 3 → 3 - k < m → wq_X4_digest_181 f_this_events f_this_seens f_this_finding c_this_told c_this_head c_this_eventKind c_this_eventAt c_this_eventNozzle c_this_seenLine c_this_seenMany c_this_able c_this_planRow c_this_missedBy post Ke_205 m (fo (gE s) h0 k) (nI k) e1 e2 e3 e4 e5 f1 f2 f3 f4 f5 f6 f7 f8 f9 f10 f11 := by
  have H := I.2.1.1
  obtain ⟨a0, a1, a2, a3, a4, a5, a6, a7, a8⟩ := id H
  intro m
  induction m with
  | zero => intro k e1 e2 e3 e4 e5 f1 f2 f3 f4 f5 f6 f7 f8 f9 f10 f11 g1 g2; omega
  | succ m ih =>
    intro k e1 e2 e3 e4 e5 f1 f2 f3 f4 f5 f6 f7 f8 f9 f10 f11 g1 g2
    unfold wq_X4_digest_181
    rw [show ((3 : Int32) ≤ nI k) ↔ 3 ≤ k from nI_leI (a := 3) (by omega) (by omega)]
    refine ⟨fun q => ?_, fun q => ?_⟩
    · have e : k = 3 := by omega
      rw [e]; exact hK _ _ _ _ _ _ _ _ _ _ _ _ _ _ _ _ 
    · intro v hv; subst hv
      refine r_evenOf I (by omega) (fun u => ?_)
      rw [forall_eq, forall_eq, nI_1]
      exact ih (k + 1) _ _ _ _ _ _ _ _ _ _ _ _ _ _ _ _ (by omega) (by omega)
theorem r_dg_ee {d s : Nat → Nat} {n : Nat} {ek ea en : Nat → Nat} {h0 : Int64} {f_this_events : Int32} {f_this_seens : Int32} {f_this_finding : Int32} {c_this_told : Nat → Int32} {c_this_head : Nat → Int32} {c_this_eventKind : Nat → Int32} {c_this_eventAt : Nat → Int32} {c_this_eventNozzle : Nat → Int32} {c_this_seenLine : Nat → Int32} {c_this_seenMany : Nat → Int32} {c_this_able : Nat → Int32} {c_this_planRow : Nat → Int32} {c_this_missedBy : Nat → Int32} {post : Int64 → (Int32 × Int32 × Int32 × Int32 × Int32 × (Nat → Int32) × (Nat → Int32) × (Nat → Int32) × (Nat → Int32) × (Nat → Int32) × (Nat → Int32) × (Nat → Int32) × (Nat → Int32) × (Nat → Int32) × (Nat → Int32) × (Nat → Int32) × (Nat → Int32) × (Nat → Int32) × (Nat → Int32)) → Prop} {Ke_205 : Int64 → (Int32) → (Int32) → (Int32) → (Int32) → (Int32) → (Nat → Int32) → (Nat → Int32) → (Nat → Int32) → (Nat → Int32) → (Nat → Int32) → (Nat → Int32) → (Nat → Int32) → (Nat → Int32) → (Nat → Int32) → (Nat → Int32) → (Nat → Int32) → Prop} (I : RefI d s n ek ea en c_this_told c_this_head f_this_events c_this_eventKind c_this_eventAt c_this_eventNozzle) (hK : ∀ (e1 e2 e3 e4 e5 : Int32) (f1 f2 f3 f4 f5 f6 f7 f8 f9 f10 f11 : Nat → Int32), Ke_205 (fo (gE s) h0 (3)) e1 e2 e3 e4 e5 f1 f2 f3 f4 f5 f6 f7 f8 f9 f10 f11) (e1 e2 e3 e4 e5 : Int32) (f1 f2 f3 f4 f5 f6 f7 f8 f9 f10 f11 : Nat → Int32) : ∃ m, wq_X4_digest_181 f_this_events f_this_seens f_this_finding c_this_told c_this_head c_this_eventKind c_this_eventAt c_this_eventNozzle c_this_seenLine c_this_seenMany c_this_able c_this_planRow c_this_missedBy post Ke_205 m h0 0 e1 e2 e3 e4 e5 f1 f2 f3 f4 f5 f6 f7 f8 f9 f10 f11 := ⟨3 + 1, r_dg_e I hK (3 + 1) 0 _ _ _ _ _ _ _ _ _ _ _ _ _ _ _ _  (by omega) (by omega)⟩

theorem r_dg_t {d s : Nat → Nat} {n : Nat} {ek ea en : Nat → Nat} {h0 : Int64} {f_this_events : Int32} {f_this_seens : Int32} {f_this_finding : Int32} {c_this_told : Nat → Int32} {c_this_head : Nat → Int32} {c_this_eventKind : Nat → Int32} {c_this_eventAt : Nat → Int32} {c_this_eventNozzle : Nat → Int32} {c_this_seenLine : Nat → Int32} {c_this_seenMany : Nat → Int32} {c_this_able : Nat → Int32} {c_this_planRow : Nat → Int32} {c_this_missedBy : Nat → Int32} {post : Int64 → (Int32 × Int32 × Int32 × Int32 × Int32 × (Nat → Int32) × (Nat → Int32) × (Nat → Int32) × (Nat → Int32) × (Nat → Int32) × (Nat → Int32) × (Nat → Int32) × (Nat → Int32) × (Nat → Int32) × (Nat → Int32) × (Nat → Int32) × (Nat → Int32) × (Nat → Int32) × (Nat → Int32)) → Prop} {Ke_246 : Int64 → (Int32) → (Int32) → (Int32) → (Int32) → (Int32) → (Nat → Int32) → (Nat → Int32) → (Nat → Int32) → (Nat → Int32) → (Nat → Int32) → (Nat → Int32) → (Nat → Int32) → (Nat → Int32) → (Nat → Int32) → (Nat → Int32) → (Nat → Int32) → Prop} (I : RefI d s n ek ea en c_this_told c_this_head f_this_events c_this_eventKind c_this_eventAt c_this_eventNozzle) (hK : ∀ (e1 e2 e3 e4 e5 : Int32) (f1 f2 f3 f4 f5 f6 f7 f8 f9 f10 f11 : Nat → Int32), Ke_246 (fo (gT s (al0 n ek ea en) d) h0 (3)) e1 e2 e3 e4 e5 f1 f2 f3 f4 f5 f6 f7 f8 f9 f10 f11) : ∀ (m k : Nat) (e1 e2 e3 e4 e5 : Int32) (f1 f2 f3 f4 f5 f6 f7 f8 f9 f10 f11 : Nat → Int32), k ≤ 3 → 3 - k < m → wq_X4_digest_207 f_this_events f_this_seens f_this_finding c_this_told c_this_head c_this_eventKind c_this_eventAt c_this_eventNozzle c_this_seenLine c_this_seenMany c_this_able c_this_planRow c_this_missedBy post Ke_246 m (fo (gT s (al0 n ek ea en) d) h0 k) (nI k) e1 e2 e3 e4 e5 f1 f2 f3 f4 f5 f6 f7 f8 f9 f10 f11 := by
  have H := I.2.1.1
  obtain ⟨a0, a1, a2, a3, a4, a5, a6, a7, a8⟩ := id H
  intro m
  induction m with
  | zero => intro k e1 e2 e3 e4 e5 f1 f2 f3 f4 f5 f6 f7 f8 f9 f10 f11 g1 g2; omega
  | succ m ih =>
    intro k e1 e2 e3 e4 e5 f1 f2 f3 f4 f5 f6 f7 f8 f9 f10 f11 g1 g2
    unfold wq_X4_digest_207
    rw [show ((3 : Int32) ≤ nI k) ↔ 3 ≤ k from nI_leI (a := 3) (by omega) (by omega)]
    refine ⟨fun q => ?_, fun q => ?_⟩
    · have e : k = 3 := by omega
      rw [e]; exact hK _ _ _ _ _ _ _ _ _ _ _ _ _ _ _ _ 
    · intro v hv; subst hv
      refine r_betterOf (w := 0) I (by omega) (by omega) (fun u => ?_)
      intro v hv; subst hv
      intro v hv; subst hv
      refine r_betterOf (w := 1) I (by omega) (by omega) (fun u => ?_)
      rw [forall_eq, forall_eq, nI_1]
      exact ih (k + 1) _ _ _ _ _ _ _ _ _ _ _ _ _ _ _ _ (by omega) (by omega)
theorem r_dg_te {d s : Nat → Nat} {n : Nat} {ek ea en : Nat → Nat} {h0 : Int64} {f_this_events : Int32} {f_this_seens : Int32} {f_this_finding : Int32} {c_this_told : Nat → Int32} {c_this_head : Nat → Int32} {c_this_eventKind : Nat → Int32} {c_this_eventAt : Nat → Int32} {c_this_eventNozzle : Nat → Int32} {c_this_seenLine : Nat → Int32} {c_this_seenMany : Nat → Int32} {c_this_able : Nat → Int32} {c_this_planRow : Nat → Int32} {c_this_missedBy : Nat → Int32} {post : Int64 → (Int32 × Int32 × Int32 × Int32 × Int32 × (Nat → Int32) × (Nat → Int32) × (Nat → Int32) × (Nat → Int32) × (Nat → Int32) × (Nat → Int32) × (Nat → Int32) × (Nat → Int32) × (Nat → Int32) × (Nat → Int32) × (Nat → Int32) × (Nat → Int32) × (Nat → Int32) × (Nat → Int32)) → Prop} {Ke_246 : Int64 → (Int32) → (Int32) → (Int32) → (Int32) → (Int32) → (Nat → Int32) → (Nat → Int32) → (Nat → Int32) → (Nat → Int32) → (Nat → Int32) → (Nat → Int32) → (Nat → Int32) → (Nat → Int32) → (Nat → Int32) → (Nat → Int32) → (Nat → Int32) → Prop} (I : RefI d s n ek ea en c_this_told c_this_head f_this_events c_this_eventKind c_this_eventAt c_this_eventNozzle) (hK : ∀ (e1 e2 e3 e4 e5 : Int32) (f1 f2 f3 f4 f5 f6 f7 f8 f9 f10 f11 : Nat → Int32), Ke_246 (fo (gT s (al0 n ek ea en) d) h0 (3)) e1 e2 e3 e4 e5 f1 f2 f3 f4 f5 f6 f7 f8 f9 f10 f11) (e1 e2 e3 e4 e5 : Int32) (f1 f2 f3 f4 f5 f6 f7 f8 f9 f10 f11 : Nat → Int32) : ∃ m, wq_X4_digest_207 f_this_events f_this_seens f_this_finding c_this_told c_this_head c_this_eventKind c_this_eventAt c_this_eventNozzle c_this_seenLine c_this_seenMany c_this_able c_this_planRow c_this_missedBy post Ke_246 m h0 0 e1 e2 e3 e4 e5 f1 f2 f3 f4 f5 f6 f7 f8 f9 f10 f11 := ⟨3 + 1, r_dg_t I hK (3 + 1) 0 _ _ _ _ _ _ _ _ _ _ _ _ _ _ _ _  (by omega) (by omega)⟩

theorem r_digest {d s : Nat → Nat} {n : Nat} {ek ea en : Nat → Nat} {sn : Nat} {sl sm : Nat → Nat} {f_this_events : Int32} {f_this_notEvents : Int32} {f_this_deadNow : Int32} {f_this_allMissed : Int32} {f_this_allWanted : Int32} {f_this_allPrinted : Int32} {f_this_seens : Int32} {f_this_finding : Int32} {c_this_told : Nat → Int32} {c_this_head : Nat → Int32} {c_this_eventKind : Nat → Int32} {c_this_eventAt : Nat → Int32} {c_this_eventNozzle : Nat → Int32} {c_this_dots : Nat → Int32} {c_this_now : Nat → Int32} {c_this_hitMany : Nat → Int32} {c_this_hitPass : Nat → Int32} {c_this_hitNozzle : Nat → Int32} {c_this_hitPrints : Nat → Int32} {c_this_canMany : Nat → Int32} {c_this_printedBy : Nat → Int32} {c_this_missing : Nat → Int32} {c_this_prints : Nat → Int32} {c_this_gutter : Nat → Int32} {c_this_able : Nat → Int32} {c_this_planRow : Nat → Int32} {c_this_seenLine : Nat → Int32} {c_this_seenMany : Nat → Int32} {c_this_missedBy : Nat → Int32} {post : Int64 → (Int32 × Int32 × Int32 × Int32 × Int32 × (Nat → Int32) × (Nat → Int32) × (Nat → Int32) × (Nat → Int32) × (Nat → Int32) × (Nat → Int32) × (Nat → Int32) × (Nat → Int32) × (Nat → Int32) × (Nat → Int32) × (Nat → Int32) × (Nat → Int32) × (Nat → Int32) × (Nat → Int32)) → Prop} (I : RefI d s n ek ea en c_this_told c_this_head f_this_events c_this_eventKind c_this_eventAt c_this_eventNozzle) (S : SeenOk sn sl sm f_this_seens c_this_seenLine c_this_seenMany) (h : ∀ u, post (aDigest d s n ek ea en sn sl sm f_this_finding) u) : wp_X4_digest f_this_events f_this_notEvents f_this_deadNow f_this_allMissed f_this_allWanted f_this_allPrinted f_this_seens f_this_finding c_this_told c_this_head c_this_eventKind c_this_eventAt c_this_eventNozzle c_this_dots c_this_now c_this_hitMany c_this_hitPass c_this_hitNozzle c_this_hitPrints c_this_canMany c_this_printedBy c_this_missing c_this_prints c_this_gutter c_this_able c_this_planRow c_this_seenLine c_this_seenMany c_this_missedBy post := by
  unfold wp_X4_digest
  refine r_dg_ce I S (fun e1 e2 e3 e4 e5 f1 f2 f3 f4 f5 f6 f7 f8 f9 f10 f11 f12 => ?_) _ _ _ _ _ _ _ _ _ _ _ _ _ _ _ _ _ 
  refine r_dg_le I (fun e1 e2 e3 e4 e5 f1 f2 f3 f4 f5 f6 f7 f8 f9 f10 f11 => ?_) _ _ _ _ _ _ _ _ _ _ _ _ _ _ _ _ 
  refine r_dg_pe I (fun e1 e2 e3 e4 e5 f1 f2 f3 f4 f5 f6 f7 f8 f9 f10 f11 => ?_) _ _ _ _ _ _ _ _ _ _ _ _ _ _ _ _ 
  refine r_dg_de I (fun e1 e2 e3 e4 e5 f1 f2 f3 f4 f5 f6 f7 f8 f9 f10 f11 => ?_) _ _ _ _ _ _ _ _ _ _ _ _ _ _ _ _ 
  refine r_dg_se I (fun e1 e2 e3 e4 e5 f1 f2 f3 f4 f5 f6 f7 f8 f9 f10 f11 => ?_) _ _ _ _ _ _ _ _ _ _ _ _ _ _ _ _ 
  refine r_dg_ee I (fun e1 e2 e3 e4 e5 f1 f2 f3 f4 f5 f6 f7 f8 f9 f10 f11 => ?_) _ _ _ _ _ _ _ _ _ _ _ _ _ _ _ _ 
  refine r_dg_te I (fun e1 e2 e3 e4 e5 f1 f2 f3 f4 f5 f6 f7 f8 f9 f10 f11 => ?_) _ _ _ _ _ _ _ _ _ _ _ _ _ _ _ _ 
  refine r_spareBy I (fun u hu => ?_)
  intro v hv; subst hv
  intro v hv; subst hv
  intro v hv; subst hv
  refine r_ofRow hu (spR_len s d n ek ea en) (by decide) ?_
  rw [if_neg (by decide), show (0 : Int32).toNatClampNeg = 0 from rfl]
  intro v hv; subst hv
  intro v hv; subst hv
  refine r_neverNow I S (fun u => ?_)
  intro v hv; subst hv
  intro v hv; subst hv
  refine r_deadsBy I S (fun u _ => ?_)
  intro v hv; subst hv
  intro v hv; subst hv
  refine r_capsBy I S (fun u => ?_)
  intro v hv; subst hv
  intro v hv; subst hv
  refine r_askOf I S (fun u => ?_)
  intro v hv; subst hv
  intro v hv; subst hv
  refine r_chanceOf (c := 5) (w := 0) I (by omega) (by omega) (fun u => ?_)
  intro v hv; subst hv
  intro v hv; subst hv
  refine r_chanceOf (c := 5) (w := 1) I (by omega) (by omega) (fun u => ?_)
  intro v hv; subst hv
  intro v hv; subst hv
  refine r_testsOf (nn := 12) (w := 0) I (by omega) (by omega) (fun u => ?_)
  intro v hv; subst hv
  intro v hv; subst hv
  refine r_testsOf (nn := 12) (w := 1) I (by omega) (by omega) (fun u => ?_)
  have h := h
  unfold aDigest dgA at h
  exact h _
