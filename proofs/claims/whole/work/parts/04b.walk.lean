set_option maxHeartbeats 4000000 in
set_option maxRecDepth 100000 in
theorem c_X1_printDot (l : Launch) (G : jG) (p_this p_this_picture p_this_head p_this_living p_this_hitCount p_this_hitPlace p_this_printingHit p_this_missedDots p_this_firstPass p_this_lastPass p_this_dotsPrinted p_this_gutter p_this_canColumns p_this_canCount : Nat) (f_this_strayed : Int32) (c_this_picture : Nat → Int32) (c_this_head : Nat → Int32) (c_this_hitCount : Nat → Int32) (c_this_hitPlace : Nat → Int32) (c_this_printingHit : Nat → Int32) (c_this_missedDots : Nat → Int32) (c_this_firstPass : Nat → Int32) (c_this_lastPass : Nat → Int32) (c_this_dotsPrinted : Nat → Int32) (c_this_canColumns : Nat → Int32) (x1 : Int32) (x2 : Int32) (post : (Int32 × (Nat → Int32) × (Nat → Int32) × (Nat → Int32) × (Nat → Int32) × (Nat → Int32)) → Prop) (h : wp_X1_printDot x1 x2 f_this_strayed c_this_picture c_this_head c_this_hitCount c_this_hitPlace c_this_printingHit c_this_missedDots c_this_firstPass c_this_lastPass c_this_dotsPrinted c_this_canColumns post) : jmv l yX1_printDot wsX1_printDot { frames := 2, cells := 0, slots := 0, locals := 45 } G [.ref p_this, .int x1, .int x2] [job p_this 1 [.ref p_this_picture, .ref p_this_head, .ref p_this_living, .ref p_this_hitCount, .ref p_this_hitPlace, .ref p_this_printingHit, .ref p_this_missedDots, .ref p_this_firstPass, .ref p_this_lastPass, .ref p_this_dotsPrinted, .ref p_this_gutter, .int f_this_strayed, .ref p_this_canColumns, .ref p_this_canCount], jai G p_this_picture 16 c_this_picture, jai G p_this_head 9 c_this_head, jai G p_this_hitCount 16 c_this_hitCount, jai G p_this_hitPlace 192 c_this_hitPlace, jai G p_this_printingHit 128 c_this_printingHit, jai G p_this_missedDots 16 c_this_missedDots, jai G p_this_firstPass 16 c_this_firstPass, jai G p_this_lastPass 16 c_this_lastPass, jai G p_this_dotsPrinted 96 c_this_dotsPrinted, jai G p_this_canColumns 12 c_this_canColumns] (fun u : Int32 × (Nat → Int32) × (Nat → Int32) × (Nat → Int32) × (Nat → Int32) × (Nat → Int32) => [job p_this 1 [.ref p_this_picture, .ref p_this_head, .ref p_this_living, .ref p_this_hitCount, .ref p_this_hitPlace, .ref p_this_printingHit, .ref p_this_missedDots, .ref p_this_firstPass, .ref p_this_lastPass, .ref p_this_dotsPrinted, .ref p_this_gutter, .int u.1, .ref p_this_canColumns, .ref p_this_canCount], jai G p_this_picture 16 c_this_picture, jai G p_this_head 9 c_this_head, jai G p_this_hitCount 16 c_this_hitCount, jai G p_this_hitPlace 192 c_this_hitPlace, jai G p_this_printingHit 128 u.2.1, jai G p_this_missedDots 16 u.2.2.1, jai G p_this_firstPass 16 u.2.2.2.1, jai G p_this_lastPass 16 u.2.2.2.2.1, jai G p_this_dotsPrinted 96 u.2.2.2.2.2, jai G p_this_canColumns 12 c_this_canColumns]) post 0 0 := by
  refine jm_v (cc := cX1_printDot) (maxL := 6) (by decide) rfl (Nat.le_of_ble_eq_true rfl) ?_
  intro k A hk hin hret
  unfold wp_X1_printDot at h
  have hiX1 : ∀ w ∈ u_ws RX1 TX1 14, w ∈ wsX1_printDot := (fun w h => List.mem_cons_of_mem _ (List.mem_append_right _ h))
  show jx k G A 6 0 0 [job p_this 1 [.ref p_this_picture, .ref p_this_head, .ref p_this_living, .ref p_this_hitCount, .ref p_this_hitPlace, .ref p_this_printingHit, .ref p_this_missedDots, .ref p_this_firstPass, .ref p_this_lastPass, .ref p_this_dotsPrinted, .ref p_this_gutter, .int f_this_strayed, .ref p_this_canColumns, .ref p_this_canCount], jai G p_this_picture 16 c_this_picture, jai G p_this_head 9 c_this_head, jai G p_this_hitCount 16 c_this_hitCount, jai G p_this_hitPlace 192 c_this_hitPlace, jai G p_this_printingHit 128 c_this_printingHit, jai G p_this_missedDots 16 c_this_missedDots, jai G p_this_firstPass 16 c_this_firstPass, jai G p_this_lastPass 16 c_this_lastPass, jai G p_this_dotsPrinted 96 c_this_dotsPrinted, jai G p_this_canColumns 12 c_this_canColumns] 0 [(0, .ref p_this), (1, .int x1), (2, .int x2)] []
  have J129 : ∀ (y19 : Int32) (z20 : Int32) (z21 : Int32) (w22 : Int32) (w23 : Nat → Int32) (w24 : Nat → Int32) (w25 : Nat → Int32) (w26 : Nat → Int32) (w27 : Nat → Int32), wq_X1_printDot_129 c_this_picture c_this_head c_this_hitCount c_this_hitPlace c_this_canColumns x1 x2 post y19 z20 z21 w22 w23 w24 w25 w26 w27 → jx k G A 6 0 0 [job p_this 1 [.ref p_this_picture, .ref p_this_head, .ref p_this_living, .ref p_this_hitCount, .ref p_this_hitPlace, .ref p_this_printingHit, .ref p_this_missedDots, .ref p_this_firstPass, .ref p_this_lastPass, .ref p_this_dotsPrinted, .ref p_this_gutter, .int w22, .ref p_this_canColumns, .ref p_this_canCount], jai G p_this_picture 16 c_this_picture, jai G p_this_head 9 c_this_head, jai G p_this_hitCount 16 c_this_hitCount, jai G p_this_hitPlace 192 c_this_hitPlace, jai G p_this_printingHit 128 w23, jai G p_this_missedDots 16 w24, jai G p_this_firstPass 16 w25, jai G p_this_lastPass 16 w26, jai G p_this_dotsPrinted 96 w27, jai G p_this_canColumns 12 c_this_canColumns] 129 [(0, .ref p_this), (1, .int x1), (5, .int y19)] [.int z21, .int z20, .ref p_this_firstPass] := by
    intro y19 z20 z21 w22 w23 w24 w25 w26 w27 h
    unfold wq_X1_printDot_129 at h
    obtain ⟨b28, h⟩ := h
    refine jx_iastore (ws' := [job p_this 1 [.ref p_this_picture, .ref p_this_head, .ref p_this_living, .ref p_this_hitCount, .ref p_this_hitPlace, .ref p_this_printingHit, .ref p_this_missedDots, .ref p_this_firstPass, .ref p_this_lastPass, .ref p_this_dotsPrinted, .ref p_this_gutter, .int w22, .ref p_this_canColumns, .ref p_this_canCount], jai G p_this_picture 16 c_this_picture, jai G p_this_head 9 c_this_head, jai G p_this_hitCount 16 c_this_hitCount, jai G p_this_hitPlace 192 c_this_hitPlace, jai G p_this_printingHit 128 w23, jai G p_this_missedDots 16 w24, jai G p_this_firstPass 16 (upd w25 z20.toNatClampNeg z21), jai G p_this_lastPass 16 w26, jai G p_this_dotsPrinted 96 w27, jai G p_this_canColumns 12 c_this_canColumns]) hk dX1_printDot_129 7 rfl b28 rfl ?_
    refine jx_aload_n hk dX1_printDot_130 rfl 0 rfl ?_
    refine jx_get (C := RX1) (T := TX1) (N := 14) (ci := 1) (v := .ref p_this_lastPass) hk hiX1 0 rfl rfl 8 (by decide) (List.mem_of_getElem? (i := 11) rfl) rfl dX1_printDot_131 ?_
    refine jx_iload_n hk dX1_printDot_134 rfl 1 rfl ?_
    refine jx_aload_n hk dX1_printDot_135 rfl 0 rfl ?_
    refine jx_get (C := RX1) (T := TX1) (N := 14) (ci := 1) (v := .ref p_this_lastPass) hk hiX1 0 rfl rfl 8 (by decide) (List.mem_of_getElem? (i := 11) rfl) rfl dX1_printDot_136 ?_
    refine jx_iload_n hk dX1_printDot_139 rfl 1 rfl ?_
    obtain ⟨b29, h⟩ := h
    refine jx_iaload hk dX1_printDot_140 8 rfl b29 ?_
    refine jx_topi (fun v30 e31 => ?_)
    replace h := h v30 e31
    refine jx_iload hk dX1_printDot_141 2 rfl ?_
    refine jx_mmax hk dX1_printDot_143 (List.mem_of_getElem? (i := 12) rfl) (List.mem_of_getElem? (i := 13) rfl) (List.mem_of_getElem? (i := 9) rfl) (List.mem_of_getElem? (i := 14) rfl) (Nat.le_of_ble_eq_true rfl) (Nat.le_of_ble_eq_true rfl) (Nat.zero_le _) (Nat.zero_le _) ?_
    refine jx_topi (fun v32 e33 => ?_)
    replace h := h v32 e33
    obtain ⟨b34, h⟩ := h
    refine jx_iastore (ws' := [job p_this 1 [.ref p_this_picture, .ref p_this_head, .ref p_this_living, .ref p_this_hitCount, .ref p_this_hitPlace, .ref p_this_printingHit, .ref p_this_missedDots, .ref p_this_firstPass, .ref p_this_lastPass, .ref p_this_dotsPrinted, .ref p_this_gutter, .int w22, .ref p_this_canColumns, .ref p_this_canCount], jai G p_this_picture 16 c_this_picture, jai G p_this_head 9 c_this_head, jai G p_this_hitCount 16 c_this_hitCount, jai G p_this_hitPlace 192 c_this_hitPlace, jai G p_this_printingHit 128 w23, jai G p_this_missedDots 16 w24, jai G p_this_firstPass 16 (upd w25 z20.toNatClampNeg z21), jai G p_this_lastPass 16 (upd w26 x1.toNatClampNeg v32), jai G p_this_dotsPrinted 96 w27, jai G p_this_canColumns 12 c_this_canColumns]) hk dX1_printDot_146 8 rfl b34 rfl ?_
    exact hret (w22, w23, w24, upd w25 z20.toNatClampNeg z21, upd w26 x1.toNatClampNeg v32, w27) _ _ dX1_printDot_147 h
  have J94 : ∀ (y35 : Int32) (z36 : Int32) (z37 : Int32) (w38 : Int32) (w39 : Nat → Int32) (w40 : Nat → Int32) (w41 : Nat → Int32) (w42 : Nat → Int32) (w43 : Nat → Int32), wq_X1_printDot_94 c_this_picture c_this_head c_this_hitCount c_this_hitPlace c_this_canColumns x1 x2 post y35 z36 z37 w38 w39 w40 w41 w42 w43 → jx k G A 6 0 0 [job p_this 1 [.ref p_this_picture, .ref p_this_head, .ref p_this_living, .ref p_this_hitCount, .ref p_this_hitPlace, .ref p_this_printingHit, .ref p_this_missedDots, .ref p_this_firstPass, .ref p_this_lastPass, .ref p_this_dotsPrinted, .ref p_this_gutter, .int w38, .ref p_this_canColumns, .ref p_this_canCount], jai G p_this_picture 16 c_this_picture, jai G p_this_head 9 c_this_head, jai G p_this_hitCount 16 c_this_hitCount, jai G p_this_hitPlace 192 c_this_hitPlace, jai G p_this_printingHit 128 w39, jai G p_this_missedDots 16 w40, jai G p_this_firstPass 16 w41, jai G p_this_lastPass 16 w42, jai G p_this_dotsPrinted 96 w43, jai G p_this_canColumns 12 c_this_canColumns] 94 [(0, .ref p_this), (1, .int x1), (5, .int y35)] [.int z37, .int z36, .ref p_this] := by
    intro y35 z36 z37 w38 w39 w40 w41 w42 w43 h
    unfold wq_X1_printDot_94 at h
    refine jx_iadd hk dX1_printDot_94 ?_
    refine jx_topi (fun v44 e45 => ?_)
    replace h := h v44 e45
    refine jx_put (C := RX1) (T := TX1) (N := 14) (ci := 1) (v := .int v44) (ty := .int) (ws' := [job p_this 1 [.ref p_this_picture, .ref p_this_head, .ref p_this_living, .ref p_this_hitCount, .ref p_this_hitPlace, .ref p_this_printingHit, .ref p_this_missedDots, .ref p_this_firstPass, .ref p_this_lastPass, .ref p_this_dotsPrinted, .ref p_this_gutter, .int v44, .ref p_this_canColumns, .ref p_this_canCount], jai G p_this_picture 16 c_this_picture, jai G p_this_head 9 c_this_head, jai G p_this_hitCount 16 c_this_hitCount, jai G p_this_hitPlace 192 c_this_hitPlace, jai G p_this_printingHit 128 w39, jai G p_this_missedDots 16 w40, jai G p_this_firstPass 16 w41, jai G p_this_lastPass 16 w42, jai G p_this_dotsPrinted 96 w43, jai G p_this_canColumns 12 c_this_canColumns]) hk hiX1 tyX1 tyX1_ok nmX1 0 rfl rfl 11 (by decide) (List.mem_of_getElem? (i := 5) rfl) rfl (tyX1_ok 11 (by decide)) rfl rfl (Nat.le_of_ble_eq_true rfl) dX1_printDot_95 rfl ?_
    refine jx_aload_n hk dX1_printDot_98 rfl 0 rfl ?_
    refine jx_get (C := RX1) (T := TX1) (N := 14) (ci := 1) (v := .ref p_this_firstPass) hk hiX1 0 rfl rfl 7 (by decide) (List.mem_of_getElem? (i := 6) rfl) rfl dX1_printDot_99 ?_
    refine jx_iload_n hk dX1_printDot_102 rfl 1 rfl ?_
    refine jx_aload_n hk dX1_printDot_103 rfl 0 rfl ?_
    refine jx_get (C := RX1) (T := TX1) (N := 14) (ci := 1) (v := .ref p_this_firstPass) hk hiX1 0 rfl rfl 7 (by decide) (List.mem_of_getElem? (i := 6) rfl) rfl dX1_printDot_104 ?_
    refine jx_iload_n hk dX1_printDot_107 rfl 1 rfl ?_
    obtain ⟨b46, h⟩ := h
    refine jx_iaload hk dX1_printDot_108 7 rfl b46 ?_
    refine jx_topi (fun v47 e48 => ?_)
    replace h := h v47 e48
    refine jx_iconst (v := (-1)) hk dX1_printDot_109 (by decide) ?_
    refine jx_icmp_ne (tgt := 118) hk dX1_printDot_110 (by decide) (fun c49 => ?_) (fun c49 => ?_)
    · replace h := h.1 c49
      refine jx_aload_n hk dX1_printDot_118 rfl 0 rfl ?_
      refine jx_get (C := RX1) (T := TX1) (N := 14) (ci := 1) (v := .ref p_this_firstPass) hk hiX1 0 rfl rfl 7 (by decide) (List.mem_of_getElem? (i := 6) rfl) rfl dX1_printDot_119 ?_
      refine jx_iload_n hk dX1_printDot_122 rfl 1 rfl ?_
      obtain ⟨b50, h⟩ := h
      refine jx_iaload hk dX1_printDot_123 7 rfl b50 ?_
      refine jx_topi (fun v51 e52 => ?_)
      replace h := h v51 e52
      refine jx_iload hk dX1_printDot_124 2 rfl ?_
      refine jx_mmin hk dX1_printDot_126 (List.mem_of_getElem? (i := 7) rfl) (List.mem_of_getElem? (i := 8) rfl) (List.mem_of_getElem? (i := 9) rfl) (List.mem_of_getElem? (i := 10) rfl) (Nat.le_of_ble_eq_true rfl) (Nat.le_of_ble_eq_true rfl) (Nat.zero_le _) (Nat.zero_le _) ?_
      refine jx_topi (fun v53 e54 => ?_)
      replace h := h v53 e54
      exact J129 _ _ _ _ _ _ _ _ _ h
    · replace h := h.2 c49
      refine jx_iload hk dX1_printDot_113 2 rfl ?_
      refine jx_goto (tgt := 129) hk dX1_printDot_115 (by decide) ?_
      exact J129 _ _ _ _ _ _ _ _ _ h
  refine jx_aload_n hk dX1_printDot_0 rfl 0 rfl ?_
  refine jx_iload_n hk dX1_printDot_1 rfl 1 rfl ?_
  refine jx_iload_n hk dX1_printDot_2 rfl 2 rfl ?_
  refine jx_callVi (wr := [jai G p_this_hitPlace 192 c_this_hitPlace, jai G p_this_printingHit 128 c_this_printingHit, jai G p_this_missedDots 16 c_this_missedDots, jai G p_this_firstPass 16 c_this_firstPass, jai G p_this_lastPass 16 c_this_lastPass, jai G p_this_dotsPrinted 96 c_this_dotsPrinted, jai G p_this_canColumns 12 c_this_canColumns]) (ws2 := fun u55 => [job p_this 1 [.ref p_this_picture, .ref p_this_head, .ref p_this_living, .ref p_this_hitCount, .ref p_this_hitPlace, .ref p_this_printingHit, .ref p_this_missedDots, .ref p_this_firstPass, .ref p_this_lastPass, .ref p_this_dotsPrinted, .ref p_this_gutter, .int f_this_strayed, .ref p_this_canColumns, .ref p_this_canCount], jai G p_this_picture 16 c_this_picture, jai G p_this_head 9 c_this_head, jai G p_this_hitCount 16 c_this_hitCount, jai G p_this_hitPlace 192 c_this_hitPlace, jai G p_this_printingHit 128 c_this_printingHit, jai G p_this_missedDots 16 c_this_missedDots, jai G p_this_firstPass 16 c_this_firstPass, jai G p_this_lastPass 16 c_this_lastPass, jai G p_this_dotsPrinted 96 c_this_dotsPrinted, jai G p_this_canColumns 12 c_this_canColumns]) hk (c_X1_wantedHit l G p_this p_this_picture p_this_head p_this_living p_this_hitCount p_this_hitPlace p_this_printingHit p_this_missedDots p_this_firstPass p_this_lastPass p_this_dotsPrinted p_this_gutter p_this_canColumns p_this_canCount f_this_strayed c_this_picture c_this_head c_this_hitCount x1 x2 _ h) 0 rfl rfl gX1_printDot_X1_wantedHit ndV_X1_wantedHit rfl rfl rfl ⟨Nat.le_of_ble_eq_true rfl, Nat.le_of_ble_eq_true rfl⟩ [0, 1, 2, 3] [4, 5, 6, 7, 8, 9, 10] [7, 8, 9, 10, 0, 1, 2, 3, 4, 5, 6] rfl rfl rfl rfl (by decide) rfl (fun _ => rfl) dX1_printDot_3 rfl (Nat.le_of_ble_eq_true rfl) ⟨Nat.zero_le _, Nat.zero_le _⟩ (fun r56 u55 h => ?_)
  refine jx_istore_n (lv' := [(3, .int r56), (0, .ref p_this), (1, .int x1), (2, .int x2)]) hk dX1_printDot_6 rfl (by decide) rfl ?_
  refine jx_aload_n hk dX1_printDot_7 rfl 1 rfl ?_
  refine jx_iload_n hk dX1_printDot_8 rfl 2 rfl ?_
  refine jx_iload_n hk dX1_printDot_9 rfl 3 rfl ?_
  refine jx_iload_n hk dX1_printDot_10 rfl 0 rfl ?_
  refine jx_callVi (wr := [jai G p_this_picture 16 c_this_picture, jai G p_this_printingHit 128 c_this_printingHit, jai G p_this_missedDots 16 c_this_missedDots, jai G p_this_firstPass 16 c_this_firstPass, jai G p_this_lastPass 16 c_this_lastPass]) (ws2 := fun u57 => [job p_this 1 [.ref p_this_picture, .ref p_this_head, .ref p_this_living, .ref p_this_hitCount, .ref p_this_hitPlace, .ref p_this_printingHit, .ref p_this_missedDots, .ref p_this_firstPass, .ref p_this_lastPass, .ref p_this_dotsPrinted, .ref p_this_gutter, .int f_this_strayed, .ref p_this_canColumns, .ref p_this_canCount], jai G p_this_picture 16 c_this_picture, jai G p_this_head 9 c_this_head, jai G p_this_hitCount 16 c_this_hitCount, jai G p_this_hitPlace 192 c_this_hitPlace, jai G p_this_printingHit 128 c_this_printingHit, jai G p_this_missedDots 16 c_this_missedDots, jai G p_this_firstPass 16 c_this_firstPass, jai G p_this_lastPass 16 c_this_lastPass, jai G p_this_dotsPrinted 96 c_this_dotsPrinted, jai G p_this_canColumns 12 c_this_canColumns]) hk (c_X1_firstHitThatMay l G p_this p_this_picture p_this_head p_this_living p_this_hitCount p_this_hitPlace p_this_printingHit p_this_missedDots p_this_firstPass p_this_lastPass p_this_dotsPrinted p_this_gutter p_this_canColumns p_this_canCount f_this_strayed c_this_head c_this_hitCount c_this_hitPlace c_this_dotsPrinted c_this_canColumns x1 x2 r56 _ h) 0 rfl rfl gX1_printDot_X1_firstHitThatMay ndV_X1_firstHitThatMay rfl rfl rfl ⟨Nat.le_of_ble_eq_true rfl, Nat.le_of_ble_eq_true rfl⟩ [0, 2, 3, 4, 9, 10] [1, 5, 6, 7, 8] [5, 0, 6, 7, 8, 1, 2, 3, 4, 9, 10] rfl rfl rfl rfl (by decide) rfl (fun _ => rfl) dX1_printDot_11 rfl (Nat.le_of_ble_eq_true rfl) ⟨Nat.zero_le _, Nat.zero_le _⟩ (fun r58 u57 h => ?_)
  refine jx_istore (lv' := [(4, .int r58), (3, .int r56), (0, .ref p_this), (1, .int x1), (2, .int x2)]) hk dX1_printDot_14 (by decide) rfl ?_
  refine jx_iload hk dX1_printDot_16 0 rfl ?_
  refine jx_iconst (v := (-1)) hk dX1_printDot_18 (by decide) ?_
  refine jx_icmp_ne (tgt := 35) hk dX1_printDot_19 (by decide) (fun c59 => ?_) (fun c59 => ?_)
  · replace h := h.1 c59
    refine jx_aload_n hk dX1_printDot_35 rfl 2 rfl ?_
    refine jx_iload_n hk dX1_printDot_36 rfl 3 rfl ?_
    refine jx_iload hk dX1_printDot_37 0 rfl ?_
    refine jx_callVi (wr := [jai G p_this_picture 16 c_this_picture, jai G p_this_head 9 c_this_head, jai G p_this_hitCount 16 c_this_hitCount, jai G p_this_printingHit 128 c_this_printingHit, jai G p_this_missedDots 16 c_this_missedDots, jai G p_this_firstPass 16 c_this_firstPass, jai G p_this_lastPass 16 c_this_lastPass, jai G p_this_dotsPrinted 96 c_this_dotsPrinted, jai G p_this_canColumns 12 c_this_canColumns]) (ws2 := fun u60 => [job p_this 1 [.ref p_this_picture, .ref p_this_head, .ref p_this_living, .ref p_this_hitCount, .ref p_this_hitPlace, .ref p_this_printingHit, .ref p_this_missedDots, .ref p_this_firstPass, .ref p_this_lastPass, .ref p_this_dotsPrinted, .ref p_this_gutter, .int f_this_strayed, .ref p_this_canColumns, .ref p_this_canCount], jai G p_this_picture 16 c_this_picture, jai G p_this_head 9 c_this_head, jai G p_this_hitCount 16 c_this_hitCount, jai G p_this_hitPlace 192 c_this_hitPlace, jai G p_this_printingHit 128 c_this_printingHit, jai G p_this_missedDots 16 c_this_missedDots, jai G p_this_firstPass 16 c_this_firstPass, jai G p_this_lastPass 16 c_this_lastPass, jai G p_this_dotsPrinted 96 c_this_dotsPrinted, jai G p_this_canColumns 12 c_this_canColumns]) hk (c_X1_passOf l G p_this p_this_picture p_this_head p_this_living p_this_hitCount p_this_hitPlace p_this_printingHit p_this_missedDots p_this_firstPass p_this_lastPass p_this_dotsPrinted p_this_gutter p_this_canColumns p_this_canCount f_this_strayed c_this_hitPlace x1 r58 _ h) 0 rfl rfl gX1_printDot_X1_passOf ndV_X1_passOf rfl rfl rfl ⟨Nat.le_of_ble_eq_true rfl, Nat.le_of_ble_eq_true rfl⟩ [0, 4] [1, 2, 3, 5, 6, 7, 8, 9, 10] [9, 0, 1, 2, 10, 3, 4, 5, 6, 7, 8] rfl rfl rfl rfl (by decide) rfl (fun _ => rfl) dX1_printDot_39 rfl (Nat.le_of_ble_eq_true rfl) ⟨Nat.zero_le _, Nat.zero_le _⟩ (fun r61 u60 h => ?_)
    refine jx_istore (lv' := [(5, .int r61), (4, .int r58), (3, .int r56), (0, .ref p_this), (1, .int x1), (2, .int x2)]) hk dX1_printDot_42 (by decide) rfl ?_
    refine jx_aload_n hk dX1_printDot_44 rfl 3 rfl ?_
    refine jx_get (C := RX1) (T := TX1) (N := 14) (ci := 1) (v := .ref p_this_printingHit) hk hiX1 0 rfl rfl 5 (by decide) (List.mem_of_getElem? (i := 2) rfl) rfl dX1_printDot_45 ?_
    refine jx_iload_n hk dX1_printDot_48 rfl 4 rfl ?_
    refine jx_bipush (v := 8) hk dX1_printDot_49 (by decide) ?_
    refine jx_imul hk dX1_printDot_51 ?_
    refine jx_topi (fun v62 e63 => ?_)
    replace h := h v62 e63
    refine jx_iload_n hk dX1_printDot_52 rfl 5 rfl ?_
    refine jx_iadd hk dX1_printDot_53 ?_
    refine jx_topi (fun v64 e65 => ?_)
    replace h := h v64 e65
    refine jx_iload hk dX1_printDot_54 1 rfl ?_
    obtain ⟨b66, h⟩ := h
    refine jx_iastore (ws' := [job p_this 1 [.ref p_this_picture, .ref p_this_head, .ref p_this_living, .ref p_this_hitCount, .ref p_this_hitPlace, .ref p_this_printingHit, .ref p_this_missedDots, .ref p_this_firstPass, .ref p_this_lastPass, .ref p_this_dotsPrinted, .ref p_this_gutter, .int f_this_strayed, .ref p_this_canColumns, .ref p_this_canCount], jai G p_this_picture 16 c_this_picture, jai G p_this_head 9 c_this_head, jai G p_this_hitCount 16 c_this_hitCount, jai G p_this_hitPlace 192 c_this_hitPlace, jai G p_this_printingHit 128 (upd c_this_printingHit v64.toNatClampNeg r58), jai G p_this_missedDots 16 c_this_missedDots, jai G p_this_firstPass 16 c_this_firstPass, jai G p_this_lastPass 16 c_this_lastPass, jai G p_this_dotsPrinted 96 c_this_dotsPrinted, jai G p_this_canColumns 12 c_this_canColumns]) hk dX1_printDot_56 5 rfl b66 rfl ?_
    refine jx_aload_n hk dX1_printDot_57 rfl 3 rfl ?_
    refine jx_get (C := RX1) (T := TX1) (N := 14) (ci := 1) (v := .ref p_this_dotsPrinted) hk hiX1 0 rfl rfl 9 (by decide) (List.mem_of_getElem? (i := 3) rfl) rfl dX1_printDot_58 ?_
    refine jx_aload_n hk dX1_printDot_61 rfl 3 rfl ?_
    refine jx_get (C := RX1) (T := TX1) (N := 14) (ci := 1) (v := .ref p_this_hitPlace) hk hiX1 0 rfl rfl 4 (by decide) (List.mem_of_getElem? (i := 4) rfl) rfl dX1_printDot_62 ?_
    refine jx_iload_n hk dX1_printDot_65 rfl 4 rfl ?_
    refine jx_bipush (v := 12) hk dX1_printDot_66 (by decide) ?_
    refine jx_imul hk dX1_printDot_68 ?_
    refine jx_topi (fun v67 e68 => ?_)
    replace h := h v67 e68
    refine jx_iload hk dX1_printDot_69 1 rfl ?_
    refine jx_iadd hk dX1_printDot_71 ?_
    refine jx_topi (fun v69 e70 => ?_)
    replace h := h v69 e70
    obtain ⟨b71, h⟩ := h
    refine jx_iaload hk dX1_printDot_72 4 rfl b71 ?_
    refine jx_topi (fun v72 e73 => ?_)
    replace h := h v72 e73
    refine jx_dup2_11 hk dX1_printDot_73 rfl rfl ?_
    obtain ⟨b74, h⟩ := h
    refine jx_iaload hk dX1_printDot_74 9 rfl b74 ?_
    refine jx_topi (fun v75 e76 => ?_)
    replace h := h v75 e76
    refine jx_iconst (v := 1) hk dX1_printDot_75 (by decide) ?_
    refine jx_iadd hk dX1_printDot_76 ?_
    refine jx_topi (fun v77 e78 => ?_)
    replace h := h v77 e78
    obtain ⟨b79, h⟩ := h
    refine jx_iastore (ws' := [job p_this 1 [.ref p_this_picture, .ref p_this_head, .ref p_this_living, .ref p_this_hitCount, .ref p_this_hitPlace, .ref p_this_printingHit, .ref p_this_missedDots, .ref p_this_firstPass, .ref p_this_lastPass, .ref p_this_dotsPrinted, .ref p_this_gutter, .int f_this_strayed, .ref p_this_canColumns, .ref p_this_canCount], jai G p_this_picture 16 c_this_picture, jai G p_this_head 9 c_this_head, jai G p_this_hitCount 16 c_this_hitCount, jai G p_this_hitPlace 192 c_this_hitPlace, jai G p_this_printingHit 128 (upd c_this_printingHit v64.toNatClampNeg r58), jai G p_this_missedDots 16 c_this_missedDots, jai G p_this_firstPass 16 c_this_firstPass, jai G p_this_lastPass 16 c_this_lastPass, jai G p_this_dotsPrinted 96 (upd c_this_dotsPrinted v72.toNatClampNeg v77), jai G p_this_canColumns 12 c_this_canColumns]) hk dX1_printDot_77 9 rfl b79 rfl ?_
    refine jx_aload_n hk dX1_printDot_78 rfl 3 rfl ?_
    refine jx_dup hk dX1_printDot_79 rfl ?_
    refine jx_get (C := RX1) (T := TX1) (N := 14) (ci := 1) (v := .int f_this_strayed) hk hiX1 0 rfl rfl 11 (by decide) (List.mem_of_getElem? (i := 5) rfl) rfl dX1_printDot_80 ?_
    refine jx_iload hk dX1_printDot_83 1 rfl ?_
    refine jx_iload_n hk dX1_printDot_85 rfl 2 rfl ?_
    refine jx_icmp_ne (tgt := 93) hk dX1_printDot_86 (by decide) (fun c80 => ?_) (fun c80 => ?_)
    · replace h := h.1 c80
      refine jx_iconst (v := 1) hk dX1_printDot_93 (by decide) ?_
      refine jx_lvs (lv' := [(0, .ref p_this), (1, .int x1), (5, .int r61)]) [3, 4, 0] rfl ?_
      exact J94 _ _ _ _ _ _ _ _ _ h
    · replace h := h.2 c80
      refine jx_iconst (v := 0) hk dX1_printDot_89 (by decide) ?_
      refine jx_goto (tgt := 94) hk dX1_printDot_90 (by decide) ?_
      refine jx_lvs (lv' := [(0, .ref p_this), (1, .int x1), (5, .int r61)]) [3, 4, 0] rfl ?_
      exact J94 _ _ _ _ _ _ _ _ _ h
  · replace h := h.2 c59
    refine jx_aload_n hk dX1_printDot_22 rfl 2 rfl ?_
    refine jx_get (C := RX1) (T := TX1) (N := 14) (ci := 1) (v := .ref p_this_missedDots) hk hiX1 0 rfl rfl 6 (by decide) (List.mem_of_getElem? (i := 1) rfl) rfl dX1_printDot_23 ?_
    refine jx_iload_n hk dX1_printDot_26 rfl 3 rfl ?_
    refine jx_dup2_11 hk dX1_printDot_27 rfl rfl ?_
    obtain ⟨b81, h⟩ := h
    refine jx_iaload hk dX1_printDot_28 6 rfl b81 ?_
    refine jx_topi (fun v82 e83 => ?_)
    replace h := h v82 e83
    refine jx_iconst (v := 1) hk dX1_printDot_29 (by decide) ?_
    refine jx_iload_n hk dX1_printDot_30 rfl 4 rfl ?_
    refine jx_ishl hk dX1_printDot_31 ?_
    refine jx_ior hk dX1_printDot_32 ?_
    refine jx_topi (fun v84 e85 => ?_)
    replace h := h v84 e85
    obtain ⟨b86, h⟩ := h
    refine jx_iastore (ws' := [job p_this 1 [.ref p_this_picture, .ref p_this_head, .ref p_this_living, .ref p_this_hitCount, .ref p_this_hitPlace, .ref p_this_printingHit, .ref p_this_missedDots, .ref p_this_firstPass, .ref p_this_lastPass, .ref p_this_dotsPrinted, .ref p_this_gutter, .int f_this_strayed, .ref p_this_canColumns, .ref p_this_canCount], jai G p_this_picture 16 c_this_picture, jai G p_this_head 9 c_this_head, jai G p_this_hitCount 16 c_this_hitCount, jai G p_this_hitPlace 192 c_this_hitPlace, jai G p_this_printingHit 128 c_this_printingHit, jai G p_this_missedDots 16 (upd c_this_missedDots x1.toNatClampNeg v84), jai G p_this_firstPass 16 c_this_firstPass, jai G p_this_lastPass 16 c_this_lastPass, jai G p_this_dotsPrinted 96 c_this_dotsPrinted, jai G p_this_canColumns 12 c_this_canColumns]) hk dX1_printDot_33 6 rfl b86 rfl ?_
    exact hret (f_this_strayed, c_this_printingHit, upd c_this_missedDots x1.toNatClampNeg v84, c_this_firstPass, c_this_lastPass, c_this_dotsPrinted) _ _ dX1_printDot_34 h
set_option maxHeartbeats 4000000 in
set_option maxRecDepth 100000 in
theorem c_X1_printLine (l : Launch) (G : jG) (p_this p_this_picture p_this_head p_this_living p_this_hitCount p_this_hitPlace p_this_printingHit p_this_missedDots p_this_firstPass p_this_lastPass p_this_dotsPrinted p_this_gutter p_this_canColumns p_this_canCount : Nat) (f_this_strayed : Int32) (c_this_picture : Nat → Int32) (c_this_head : Nat → Int32) (c_this_living : Nat → Int32) (c_this_hitCount : Nat → Int32) (c_this_hitPlace : Nat → Int32) (c_this_printingHit : Nat → Int32) (c_this_missedDots : Nat → Int32) (c_this_firstPass : Nat → Int32) (c_this_lastPass : Nat → Int32) (c_this_dotsPrinted : Nat → Int32) (c_this_canColumns : Nat → Int32) (c_this_canCount : Nat → Int32) (x1 : Int32) (post : (Int32 × (Nat → Int32) × (Nat → Int32) × (Nat → Int32) × (Nat → Int32) × (Nat → Int32) × (Nat → Int32) × (Nat → Int32)) → Prop) (h : wp_X1_printLine x1 f_this_strayed c_this_picture c_this_head c_this_living c_this_hitCount c_this_hitPlace c_this_printingHit c_this_missedDots c_this_firstPass c_this_lastPass c_this_dotsPrinted c_this_canColumns c_this_canCount post) : jmv l yX1_printLine wsX1_printLine { frames := 3, cells := 0, slots := 0, locals := 70 } G [.ref p_this, .int x1] [job p_this 1 [.ref p_this_picture, .ref p_this_head, .ref p_this_living, .ref p_this_hitCount, .ref p_this_hitPlace, .ref p_this_printingHit, .ref p_this_missedDots, .ref p_this_firstPass, .ref p_this_lastPass, .ref p_this_dotsPrinted, .ref p_this_gutter, .int f_this_strayed, .ref p_this_canColumns, .ref p_this_canCount], jai G p_this_picture 16 c_this_picture, jai G p_this_head 9 c_this_head, jai G p_this_living 8 c_this_living, jai G p_this_hitCount 16 c_this_hitCount, jai G p_this_hitPlace 192 c_this_hitPlace, jai G p_this_printingHit 128 c_this_printingHit, jai G p_this_missedDots 16 c_this_missedDots, jai G p_this_firstPass 16 c_this_firstPass, jai G p_this_lastPass 16 c_this_lastPass, jai G p_this_dotsPrinted 96 c_this_dotsPrinted, jai G p_this_canColumns 12 c_this_canColumns, jai G p_this_canCount 8 c_this_canCount] (fun u : Int32 × (Nat → Int32) × (Nat → Int32) × (Nat → Int32) × (Nat → Int32) × (Nat → Int32) × (Nat → Int32) × (Nat → Int32) => [job p_this 1 [.ref p_this_picture, .ref p_this_head, .ref p_this_living, .ref p_this_hitCount, .ref p_this_hitPlace, .ref p_this_printingHit, .ref p_this_missedDots, .ref p_this_firstPass, .ref p_this_lastPass, .ref p_this_dotsPrinted, .ref p_this_gutter, .int u.1, .ref p_this_canColumns, .ref p_this_canCount], jai G p_this_picture 16 c_this_picture, jai G p_this_head 9 c_this_head, jai G p_this_living 8 c_this_living, jai G p_this_hitCount 16 c_this_hitCount, jai G p_this_hitPlace 192 c_this_hitPlace, jai G p_this_printingHit 128 u.2.1, jai G p_this_missedDots 16 u.2.2.1, jai G p_this_firstPass 16 u.2.2.2.1, jai G p_this_lastPass 16 u.2.2.2.2.1, jai G p_this_dotsPrinted 96 u.2.2.2.2.2.1, jai G p_this_canColumns 12 u.2.2.2.2.2.2.1, jai G p_this_canCount 8 u.2.2.2.2.2.2.2]) post 0 0 := by
  refine jm_v (cc := cX1_printLine) (maxL := 4) (by decide) rfl (Nat.le_of_ble_eq_true rfl) ?_
  intro k A hk hin hret
  unfold wp_X1_printLine at h
  have hiX1 : ∀ w ∈ u_ws RX1 TX1 14, w ∈ wsX1_printLine := (fun w h => List.mem_cons_of_mem _ (List.mem_append_right _ h))
  show jx k G A 4 0 0 [job p_this 1 [.ref p_this_picture, .ref p_this_head, .ref p_this_living, .ref p_this_hitCount, .ref p_this_hitPlace, .ref p_this_printingHit, .ref p_this_missedDots, .ref p_this_firstPass, .ref p_this_lastPass, .ref p_this_dotsPrinted, .ref p_this_gutter, .int f_this_strayed, .ref p_this_canColumns, .ref p_this_canCount], jai G p_this_picture 16 c_this_picture, jai G p_this_head 9 c_this_head, jai G p_this_living 8 c_this_living, jai G p_this_hitCount 16 c_this_hitCount, jai G p_this_hitPlace 192 c_this_hitPlace, jai G p_this_printingHit 128 c_this_printingHit, jai G p_this_missedDots 16 c_this_missedDots, jai G p_this_firstPass 16 c_this_firstPass, jai G p_this_lastPass 16 c_this_lastPass, jai G p_this_dotsPrinted 96 c_this_dotsPrinted, jai G p_this_canColumns 12 c_this_canColumns, jai G p_this_canCount 8 c_this_canCount] 0 [(0, .ref p_this), (1, .int x1)] []
  refine jx_aload_n hk dX1_printLine_0 rfl 0 rfl ?_
  refine jx_get (C := RX1) (T := TX1) (N := 14) (ci := 1) (v := .ref p_this_picture) hk hiX1 0 rfl rfl 0 (by decide) (List.mem_of_getElem? (i := 1) rfl) rfl dX1_printLine_1 ?_
  refine jx_iload_n hk dX1_printLine_4 rfl 1 rfl ?_
  obtain ⟨b51, h⟩ := h
  refine jx_iaload hk dX1_printLine_5 1 rfl b51 ?_
  refine jx_if_ne (tgt := 10) hk dX1_printLine_6 (by decide) (fun c52 => ?_) (fun c52 => ?_)
  · replace h := h.1 c52
    refine jx_aload_n hk dX1_printLine_10 rfl 0 rfl ?_
    refine jx_iload_n hk dX1_printLine_11 rfl 1 rfl ?_
    refine jx_callVv (wr := [jai G p_this_picture 16 c_this_picture, jai G p_this_printingHit 128 c_this_printingHit, jai G p_this_missedDots 16 c_this_missedDots, jai G p_this_firstPass 16 c_this_firstPass, jai G p_this_lastPass 16 c_this_lastPass, jai G p_this_dotsPrinted 96 c_this_dotsPrinted]) (ws2 := fun u53 => [job p_this 1 [.ref p_this_picture, .ref p_this_head, .ref p_this_living, .ref p_this_hitCount, .ref p_this_hitPlace, .ref p_this_printingHit, .ref p_this_missedDots, .ref p_this_firstPass, .ref p_this_lastPass, .ref p_this_dotsPrinted, .ref p_this_gutter, .int f_this_strayed, .ref p_this_canColumns, .ref p_this_canCount], jai G p_this_picture 16 c_this_picture, jai G p_this_head 9 c_this_head, jai G p_this_living 8 c_this_living, jai G p_this_hitCount 16 c_this_hitCount, jai G p_this_hitPlace 192 c_this_hitPlace, jai G p_this_printingHit 128 c_this_printingHit, jai G p_this_missedDots 16 c_this_missedDots, jai G p_this_firstPass 16 c_this_firstPass, jai G p_this_lastPass 16 c_this_lastPass, jai G p_this_dotsPrinted 96 c_this_dotsPrinted, jai G p_this_canColumns 12 u53.1, jai G p_this_canCount 8 u53.2]) hk (c_X1_lookAtHits l G p_this p_this_picture p_this_head p_this_living p_this_hitCount p_this_hitPlace p_this_printingHit p_this_missedDots p_this_firstPass p_this_lastPass p_this_dotsPrinted p_this_gutter p_this_canColumns p_this_canCount f_this_strayed c_this_head c_this_living c_this_hitCount c_this_hitPlace c_this_canColumns c_this_canCount x1 _ h) 0 rfl rfl gX1_printLine_X1_lookAtHits ndV_X1_lookAtHits rfl rfl rfl ⟨Nat.le_of_ble_eq_true rfl, Nat.le_of_ble_eq_true rfl⟩ [0, 2, 3, 4, 5, 11, 12] [1, 6, 7, 8, 9, 10] [6, 0, 7, 8, 9, 10, 1, 2, 3, 4, 5, 11, 12] rfl rfl rfl rfl (by decide) rfl (fun _ => rfl) dX1_printLine_12 rfl (Nat.le_of_ble_eq_true rfl) ⟨Nat.zero_le _, Nat.zero_le _⟩ (fun u53 h => ?_)
    refine jx_iconst (v := 0) hk dX1_printLine_15 (by decide) ?_
    refine jx_istore_n (lv' := [(2, .int (0 : Int32)), (0, .ref p_this), (1, .int x1)]) hk dX1_printLine_16 rfl (by decide) rfl ?_
    obtain ⟨n61, h⟩ := h
    have L17 : ∀ (Ke_72 : (Int32) → (Nat → Int32) → (Nat → Int32) → (Nat → Int32) → (Nat → Int32) → (Nat → Int32) → Prop), (∀ (d55 : Int32) (d56 : Nat → Int32) (d57 : Nat → Int32) (d58 : Nat → Int32) (d59 : Nat → Int32) (d60 : Nat → Int32), Ke_72 d55 d56 d57 d58 d59 d60 → jx k G A 4 0 0 [job p_this 1 [.ref p_this_picture, .ref p_this_head, .ref p_this_living, .ref p_this_hitCount, .ref p_this_hitPlace, .ref p_this_printingHit, .ref p_this_missedDots, .ref p_this_firstPass, .ref p_this_lastPass, .ref p_this_dotsPrinted, .ref p_this_gutter, .int d55, .ref p_this_canColumns, .ref p_this_canCount], jai G p_this_picture 16 c_this_picture, jai G p_this_head 9 c_this_head, jai G p_this_living 8 c_this_living, jai G p_this_hitCount 16 c_this_hitCount, jai G p_this_hitPlace 192 c_this_hitPlace, jai G p_this_printingHit 128 d56, jai G p_this_missedDots 16 d57, jai G p_this_firstPass 16 d58, jai G p_this_lastPass 16 d59, jai G p_this_dotsPrinted 96 d60, jai G p_this_canColumns 12 u53.1, jai G p_this_canCount 8 u53.2] 72 [] []) → ∀ (n : Nat) (i62 : Int32) (w63 : Int32) (w64 : Nat → Int32) (w65 : Nat → Int32) (w66 : Nat → Int32) (w67 : Nat → Int32) (w68 : Nat → Int32), wq_X1_printLine_17 c_this_picture c_this_head c_this_living c_this_hitCount c_this_hitPlace x1 u53.1 u53.2 post Ke_72 n i62 w63 w64 w65 w66 w67 w68 → jx k G A 4 0 0 [job p_this 1 [.ref p_this_picture, .ref p_this_head, .ref p_this_living, .ref p_this_hitCount, .ref p_this_hitPlace, .ref p_this_printingHit, .ref p_this_missedDots, .ref p_this_firstPass, .ref p_this_lastPass, .ref p_this_dotsPrinted, .ref p_this_gutter, .int w63, .ref p_this_canColumns, .ref p_this_canCount], jai G p_this_picture 16 c_this_picture, jai G p_this_head 9 c_this_head, jai G p_this_living 8 c_this_living, jai G p_this_hitCount 16 c_this_hitCount, jai G p_this_hitPlace 192 c_this_hitPlace, jai G p_this_printingHit 128 w64, jai G p_this_missedDots 16 w65, jai G p_this_firstPass 16 w66, jai G p_this_lastPass 16 w67, jai G p_this_dotsPrinted 96 w68, jai G p_this_canColumns 12 u53.1, jai G p_this_canCount 8 u53.2] 17 [(0, .ref p_this), (1, .int x1), (2, .int i62)] [] := by
      intro Ke_72 hE_72 n
      induction n with
      | zero =>
        intro _ _ _ _ _ _ _ h
        exact h.elim
      | succ n ih =>
        intro i62 w63 w64 w65 w66 w67 w68 h
        unfold wq_X1_printLine_17 at h
        refine jx_iload_n hk dX1_printLine_17 rfl 2 rfl ?_
        refine jx_aload_n hk dX1_printLine_18 rfl 0 rfl ?_
        refine jx_get (C := RX1) (T := TX1) (N := 14) (ci := 1) (v := .ref p_this_hitCount) hk hiX1 0 rfl rfl 3 (by decide) (List.mem_of_getElem? (i := 2) rfl) rfl dX1_printLine_19 ?_
        refine jx_iload_n hk dX1_printLine_22 rfl 1 rfl ?_
        obtain ⟨b69, h⟩ := h
        refine jx_iaload hk dX1_printLine_23 4 rfl b69 ?_
        refine jx_icmp_gt (tgt := 72) hk dX1_printLine_24 (by decide) (fun c70 => ?_) (fun c70 => ?_)
        · replace h := h.1 c70
          refine jx_lvs (lv' := []) [] rfl ?_
          exact hE_72 _ _ _ _ _ _ h
        · replace h := h.2 c70
          refine jx_iconst (v := 0) hk dX1_printLine_27 (by decide) ?_
          refine jx_istore_n (lv' := [(3, .int (0 : Int32)), (0, .ref p_this), (1, .int x1), (2, .int i62)]) hk dX1_printLine_28 rfl (by decide) rfl ?_
          obtain ⟨n79, h⟩ := h
          have L29 : ∀ (Ke_66 : (Int32) → (Nat → Int32) → (Nat → Int32) → (Nat → Int32) → (Nat → Int32) → (Nat → Int32) → Prop), (∀ (d71 : Int32) (d72 : Nat → Int32) (d73 : Nat → Int32) (d74 : Nat → Int32) (d75 : Nat → Int32) (d76 : Nat → Int32), Ke_66 d71 d72 d73 d74 d75 d76 → jx k G A 4 0 0 [job p_this 1 [.ref p_this_picture, .ref p_this_head, .ref p_this_living, .ref p_this_hitCount, .ref p_this_hitPlace, .ref p_this_printingHit, .ref p_this_missedDots, .ref p_this_firstPass, .ref p_this_lastPass, .ref p_this_dotsPrinted, .ref p_this_gutter, .int d71, .ref p_this_canColumns, .ref p_this_canCount], jai G p_this_picture 16 c_this_picture, jai G p_this_head 9 c_this_head, jai G p_this_living 8 c_this_living, jai G p_this_hitCount 16 c_this_hitCount, jai G p_this_hitPlace 192 c_this_hitPlace, jai G p_this_printingHit 128 d72, jai G p_this_missedDots 16 d73, jai G p_this_firstPass 16 d74, jai G p_this_lastPass 16 d75, jai G p_this_dotsPrinted 96 d76, jai G p_this_canColumns 12 u53.1, jai G p_this_canCount 8 u53.2] 66 [(0, .ref p_this), (1, .int x1), (2, .int i62)] []) → ∀ (n : Nat) (i80 : Int32) (w81 : Int32) (w82 : Nat → Int32) (w83 : Nat → Int32) (w84 : Nat → Int32) (w85 : Nat → Int32) (w86 : Nat → Int32), wq_X1_printLine_29 c_this_picture c_this_head c_this_living c_this_hitCount c_this_hitPlace x1 i62 u53.1 u53.2 post Ke_66 n i80 w81 w82 w83 w84 w85 w86 → jx k G A 4 0 0 [job p_this 1 [.ref p_this_picture, .ref p_this_head, .ref p_this_living, .ref p_this_hitCount, .ref p_this_hitPlace, .ref p_this_printingHit, .ref p_this_missedDots, .ref p_this_firstPass, .ref p_this_lastPass, .ref p_this_dotsPrinted, .ref p_this_gutter, .int w81, .ref p_this_canColumns, .ref p_this_canCount], jai G p_this_picture 16 c_this_picture, jai G p_this_head 9 c_this_head, jai G p_this_living 8 c_this_living, jai G p_this_hitCount 16 c_this_hitCount, jai G p_this_hitPlace 192 c_this_hitPlace, jai G p_this_printingHit 128 w82, jai G p_this_missedDots 16 w83, jai G p_this_firstPass 16 w84, jai G p_this_lastPass 16 w85, jai G p_this_dotsPrinted 96 w86, jai G p_this_canColumns 12 u53.1, jai G p_this_canCount 8 u53.2] 29 [(0, .ref p_this), (1, .int x1), (2, .int i62), (3, .int i80)] [] := by
            intro Ke_66 hE_66 n
            induction n with
            | zero =>
              intro _ _ _ _ _ _ _ h
              exact h.elim
            | succ n ih =>
              intro i80 w81 w82 w83 w84 w85 w86 h
              unfold wq_X1_printLine_29 at h
              refine jx_iload_n hk dX1_printLine_29 rfl 3 rfl ?_
              refine jx_bipush (v := 8) hk dX1_printLine_30 (by decide) ?_
              refine jx_icmp_ge (tgt := 66) hk dX1_printLine_32 (by decide) (fun c87 => ?_) (fun c87 => ?_)
              · replace h := h.1 c87
                refine jx_lvs (lv' := [(0, .ref p_this), (1, .int x1), (2, .int i62)]) [0, 1, 2] rfl ?_
                exact hE_66 _ _ _ _ _ _ h
              · replace h := h.2 c87
                refine jx_aload_n hk dX1_printLine_35 rfl 0 rfl ?_
                refine jx_get (C := RX1) (T := TX1) (N := 14) (ci := 1) (v := .ref p_this_canCount) hk hiX1 0 rfl rfl 13 (by decide) (List.mem_of_getElem? (i := 3) rfl) rfl dX1_printLine_36 ?_
                refine jx_iload_n hk dX1_printLine_39 rfl 3 rfl ?_
                obtain ⟨b88, h⟩ := h
                refine jx_iaload hk dX1_printLine_40 12 rfl b88 ?_
                refine jx_topi (fun v89 e90 => ?_)
                replace h := h v89 e90
                refine jx_iload_n hk dX1_printLine_41 rfl 2 rfl ?_
                refine jx_icmp_ne (tgt := 60) hk dX1_printLine_42 (by decide) (fun c91 => ?_) (fun c91 => ?_)
                · replace h := h.1 c91
                  refine jx_iincN (lvf := fun vq => [(3, .int vq), (0, .ref p_this), (1, .int x1), (2, .int i62)]) (c := 1) hk dX1_printLine_60 3 rfl (by decide) (by decide) (fun _ => rfl) (fun v92 e93 => ?_)
                  replace h := h v92 e93
                  refine jx_goto (tgt := 29) hk dX1_printLine_63 (by decide) ?_
                  refine jx_lvs (lv' := [(0, .ref p_this), (1, .int x1), (2, .int i62), (3, .int v92)]) [1, 2, 3, 0] rfl ?_
                  exact ih _ _ _ _ _ _ _ h
                · replace h := h.2 c91
                  refine jx_aload_n hk dX1_printLine_45 rfl 0 rfl ?_
                  refine jx_iload_n hk dX1_printLine_46 rfl 1 rfl ?_
                  refine jx_iload_n hk dX1_printLine_47 rfl 3 rfl ?_
                  refine jx_callVi (wr := [jai G p_this_head 9 c_this_head, jai G p_this_living 8 c_this_living, jai G p_this_hitCount 16 c_this_hitCount, jai G p_this_hitPlace 192 c_this_hitPlace, jai G p_this_printingHit 128 w82, jai G p_this_missedDots 16 w83, jai G p_this_firstPass 16 w84, jai G p_this_lastPass 16 w85, jai G p_this_dotsPrinted 96 w86, jai G p_this_canColumns 12 u53.1, jai G p_this_canCount 8 u53.2]) (ws2 := fun u94 => [job p_this 1 [.ref p_this_picture, .ref p_this_head, .ref p_this_living, .ref p_this_hitCount, .ref p_this_hitPlace, .ref p_this_printingHit, .ref p_this_missedDots, .ref p_this_firstPass, .ref p_this_lastPass, .ref p_this_dotsPrinted, .ref p_this_gutter, .int w81, .ref p_this_canColumns, .ref p_this_canCount], jai G p_this_picture 16 c_this_picture, jai G p_this_head 9 c_this_head, jai G p_this_living 8 c_this_living, jai G p_this_hitCount 16 c_this_hitCount, jai G p_this_hitPlace 192 c_this_hitPlace, jai G p_this_printingHit 128 w82, jai G p_this_missedDots 16 w83, jai G p_this_firstPass 16 w84, jai G p_this_lastPass 16 w85, jai G p_this_dotsPrinted 96 w86, jai G p_this_canColumns 12 u53.1, jai G p_this_canCount 8 u53.2]) hk (c_X1_isDot l G p_this p_this_picture p_this_head p_this_living p_this_hitCount p_this_hitPlace p_this_printingHit p_this_missedDots p_this_firstPass p_this_lastPass p_this_dotsPrinted p_this_gutter p_this_canColumns p_this_canCount w81 c_this_picture x1 i80 _ h) 0 rfl rfl gX1_printLine_X1_isDot ndV_X1_isDot rfl rfl rfl ⟨Nat.le_of_ble_eq_true rfl, Nat.le_of_ble_eq_true rfl⟩ [0, 1] [2, 3, 4, 5, 6, 7, 8, 9, 10, 11, 12] [11, 12, 0, 1, 2, 3, 4, 5, 6, 7, 8, 9, 10] rfl rfl rfl rfl (by decide) rfl (fun _ => rfl) dX1_printLine_48 rfl (Nat.le_of_ble_eq_true rfl) ⟨Nat.zero_le _, Nat.zero_le _⟩ (fun r95 u94 h => ?_)
                  refine jx_if_eq (tgt := 60) hk dX1_printLine_51 (by decide) (fun c96 => ?_) (fun c96 => ?_)
                  · replace h := h.1 c96
                    refine jx_iincN (lvf := fun vq => [(3, .int vq), (0, .ref p_this), (1, .int x1), (2, .int i62)]) (c := 1) hk dX1_printLine_60 3 rfl (by decide) (by decide) (fun _ => rfl) (fun v97 e98 => ?_)
                    replace h := h v97 e98
                    refine jx_goto (tgt := 29) hk dX1_printLine_63 (by decide) ?_
                    refine jx_lvs (lv' := [(0, .ref p_this), (1, .int x1), (2, .int i62), (3, .int v97)]) [1, 2, 3, 0] rfl ?_
                    exact ih _ _ _ _ _ _ _ h
                  · replace h := h.2 c96
                    refine jx_aload_n hk dX1_printLine_54 rfl 0 rfl ?_
                    refine jx_iload_n hk dX1_printLine_55 rfl 1 rfl ?_
                    refine jx_iload_n hk dX1_printLine_56 rfl 3 rfl ?_
                    refine jx_callVv (wr := [jai G p_this_living 8 c_this_living, jai G p_this_canCount 8 u53.2]) (ws2 := fun u99 => [job p_this 1 [.ref p_this_picture, .ref p_this_head, .ref p_this_living, .ref p_this_hitCount, .ref p_this_hitPlace, .ref p_this_printingHit, .ref p_this_missedDots, .ref p_this_firstPass, .ref p_this_lastPass, .ref p_this_dotsPrinted, .ref p_this_gutter, .int u99.1, .ref p_this_canColumns, .ref p_this_canCount], jai G p_this_picture 16 c_this_picture, jai G p_this_head 9 c_this_head, jai G p_this_living 8 c_this_living, jai G p_this_hitCount 16 c_this_hitCount, jai G p_this_hitPlace 192 c_this_hitPlace, jai G p_this_printingHit 128 u99.2.1, jai G p_this_missedDots 16 u99.2.2.1, jai G p_this_firstPass 16 u99.2.2.2.1, jai G p_this_lastPass 16 u99.2.2.2.2.1, jai G p_this_dotsPrinted 96 u99.2.2.2.2.2, jai G p_this_canColumns 12 u53.1, jai G p_this_canCount 8 u53.2]) hk (c_X1_printDot l G p_this p_this_picture p_this_head p_this_living p_this_hitCount p_this_hitPlace p_this_printingHit p_this_missedDots p_this_firstPass p_this_lastPass p_this_dotsPrinted p_this_gutter p_this_canColumns p_this_canCount w81 c_this_picture c_this_head c_this_hitCount c_this_hitPlace w82 w83 w84 w85 w86 u53.1 x1 i80 _ h) 0 rfl rfl gX1_printLine_X1_printDot ndV_X1_printDot rfl rfl rfl ⟨Nat.le_of_ble_eq_true rfl, Nat.le_of_ble_eq_true rfl⟩ [0, 1, 2, 4, 5, 6, 7, 8, 9, 10, 11] [3, 12] [2, 3, 4, 0, 5, 6, 7, 8, 9, 10, 11, 12, 1] rfl rfl rfl rfl (by decide) rfl (fun _ => rfl) dX1_printLine_57 rfl (Nat.le_of_ble_eq_true rfl) ⟨Nat.zero_le _, Nat.zero_le _⟩ (fun u99 h => ?_)
                    refine jx_iincN (lvf := fun vq => [(3, .int vq), (0, .ref p_this), (1, .int x1), (2, .int i62)]) (c := 1) hk dX1_printLine_60 3 rfl (by decide) (by decide) (fun _ => rfl) (fun v101 e102 => ?_)
                    replace h := h v101 e102
                    refine jx_goto (tgt := 29) hk dX1_printLine_63 (by decide) ?_
                    refine jx_lvs (lv' := [(0, .ref p_this), (1, .int x1), (2, .int i62), (3, .int v101)]) [1, 2, 3, 0] rfl ?_
                    exact ih _ _ _ _ _ _ _ h
          refine jx_lvs (lv' := [(0, .ref p_this), (1, .int x1), (2, .int i62), (3, .int (0 : Int32))]) [1, 2, 3, 0] rfl ?_
          refine L29 _ ?_ n79 _ _ _ _ _ _ _ h
          intro d71 d72 d73 d74 d75 d76 h
          refine jx_iincN (lvf := fun vq => [(2, .int vq), (0, .ref p_this), (1, .int x1)]) (c := 1) hk dX1_printLine_66 2 rfl (by decide) (by decide) (fun _ => rfl) (fun v77 e78 => ?_)
          replace h := h v77 e78
          refine jx_goto (tgt := 17) hk dX1_printLine_69 (by decide) ?_
          refine jx_lvs (lv' := [(0, .ref p_this), (1, .int x1), (2, .int v77)]) [1, 2, 0] rfl ?_
          exact ih _ _ _ _ _ _ _ h
    refine jx_lvs (lv' := [(0, .ref p_this), (1, .int x1), (2, .int (0 : Int32))]) [1, 2, 0] rfl ?_
    refine L17 _ ?_ n61 _ _ _ _ _ _ _ h
    intro d55 d56 d57 d58 d59 d60 h
    exact hret (d55, d56, d57, d58, d59, d60, u53.1, u53.2) _ _ dX1_printLine_72 h
  · replace h := h.2 c52
    exact hret (f_this_strayed, c_this_printingHit, c_this_missedDots, c_this_firstPass, c_this_lastPass, c_this_dotsPrinted, c_this_canColumns, c_this_canCount) _ _ dX1_printLine_9 h
set_option maxHeartbeats 4000000 in
set_option maxRecDepth 100000 in
theorem c_X1_gutterPasses (l : Launch) (G : jG) (p_this p_this_picture p_this_head p_this_living p_this_hitCount p_this_hitPlace p_this_printingHit p_this_missedDots p_this_firstPass p_this_lastPass p_this_dotsPrinted p_this_gutter p_this_canColumns p_this_canCount : Nat) (f_this_strayed : Int32) (c_this_head : Nat → Int32) (c_this_living : Nat → Int32) (c_this_dotsPrinted : Nat → Int32) (x1 : Int32) (post : Int32 → Unit → Prop) (h : wp_X1_gutterPasses x1 c_this_head c_this_living c_this_dotsPrinted post) : jmi l yX1_gutterPasses wsX1_gutterPasses { frames := 1, cells := 0, slots := 0, locals := 22 } G [.ref p_this, .int x1] [job p_this 1 [.ref p_this_picture, .ref p_this_head, .ref p_this_living, .ref p_this_hitCount, .ref p_this_hitPlace, .ref p_this_printingHit, .ref p_this_missedDots, .ref p_this_firstPass, .ref p_this_lastPass, .ref p_this_dotsPrinted, .ref p_this_gutter, .int f_this_strayed, .ref p_this_canColumns, .ref p_this_canCount], jai G p_this_head 9 c_this_head, jai G p_this_living 8 c_this_living, jai G p_this_dotsPrinted 96 c_this_dotsPrinted] (fun u : Unit => [job p_this 1 [.ref p_this_picture, .ref p_this_head, .ref p_this_living, .ref p_this_hitCount, .ref p_this_hitPlace, .ref p_this_printingHit, .ref p_this_missedDots, .ref p_this_firstPass, .ref p_this_lastPass, .ref p_this_dotsPrinted, .ref p_this_gutter, .int f_this_strayed, .ref p_this_canColumns, .ref p_this_canCount], jai G p_this_head 9 c_this_head, jai G p_this_living 8 c_this_living, jai G p_this_dotsPrinted 96 c_this_dotsPrinted]) post 0 0 := by
  refine jm_i (cc := cX1_gutterPasses) (maxL := 6) (by decide) rfl (Nat.le_of_ble_eq_true rfl) ?_
  intro k A hk hin hret
  unfold wp_X1_gutterPasses at h
  have hiX1 : ∀ w ∈ u_ws RX1 TX1 14, w ∈ wsX1_gutterPasses := (fun w h => List.mem_cons_of_mem _ (List.mem_append_right _ h))
  show jx k G A 6 0 0 [job p_this 1 [.ref p_this_picture, .ref p_this_head, .ref p_this_living, .ref p_this_hitCount, .ref p_this_hitPlace, .ref p_this_printingHit, .ref p_this_missedDots, .ref p_this_firstPass, .ref p_this_lastPass, .ref p_this_dotsPrinted, .ref p_this_gutter, .int f_this_strayed, .ref p_this_canColumns, .ref p_this_canCount], jai G p_this_head 9 c_this_head, jai G p_this_living 8 c_this_living, jai G p_this_dotsPrinted 96 c_this_dotsPrinted] 0 [(0, .ref p_this), (1, .int x1)] []
  refine jx_iconst (v := 0) hk dX1_gutterPasses_0 (by decide) ?_
  refine jx_istore_n (lv' := [(2, .int (0 : Int32)), (0, .ref p_this), (1, .int x1)]) hk dX1_gutterPasses_1 rfl (by decide) rfl ?_
  refine jx_iconst (v := 0) hk dX1_gutterPasses_2 (by decide) ?_
  refine jx_istore_n (lv' := [(3, .int (0 : Int32)), (2, .int (0 : Int32)), (0, .ref p_this), (1, .int x1)]) hk dX1_gutterPasses_3 rfl (by decide) rfl ?_
  refine jx_iconst (v := 0) hk dX1_gutterPasses_4 (by decide) ?_
  refine jx_istore (lv' := [(4, .int (0 : Int32)), (3, .int (0 : Int32)), (2, .int (0 : Int32)), (0, .ref p_this), (1, .int x1)]) hk dX1_gutterPasses_5 (by decide) rfl ?_
  obtain ⟨n28, h⟩ := h
  have L7 : ∀ (Ke_92 : Int32 → Prop), (∀ (e27 : Int32), Ke_92 e27 → jx k G A 6 0 0 [job p_this 1 [.ref p_this_picture, .ref p_this_head, .ref p_this_living, .ref p_this_hitCount, .ref p_this_hitPlace, .ref p_this_printingHit, .ref p_this_missedDots, .ref p_this_firstPass, .ref p_this_lastPass, .ref p_this_dotsPrinted, .ref p_this_gutter, .int f_this_strayed, .ref p_this_canColumns, .ref p_this_canCount], jai G p_this_head 9 c_this_head, jai G p_this_living 8 c_this_living, jai G p_this_dotsPrinted 96 c_this_dotsPrinted] 92 [(2, .int e27)] []) → ∀ (n : Nat) (i29 : Int32) (i30 : Int32) (i31 : Int32), wq_X1_gutterPasses_7 c_this_head c_this_living c_this_dotsPrinted x1 post Ke_92 n i29 i30 i31 → jx k G A 6 0 0 [job p_this 1 [.ref p_this_picture, .ref p_this_head, .ref p_this_living, .ref p_this_hitCount, .ref p_this_hitPlace, .ref p_this_printingHit, .ref p_this_missedDots, .ref p_this_firstPass, .ref p_this_lastPass, .ref p_this_dotsPrinted, .ref p_this_gutter, .int f_this_strayed, .ref p_this_canColumns, .ref p_this_canCount], jai G p_this_head 9 c_this_head, jai G p_this_living 8 c_this_living, jai G p_this_dotsPrinted 96 c_this_dotsPrinted] 7 [(0, .ref p_this), (1, .int x1), (2, .int i29), (3, .int i30), (4, .int i31)] [] := by
    intro Ke_92 hE_92 n
    induction n with
    | zero =>
      intro _ _ _ h
      exact h.elim
    | succ n ih =>
      intro i29 i30 i31 h
      unfold wq_X1_gutterPasses_7 at h
      have J65 : ∀ (y32 : Int32) (y33 : Int32) (z34 : Int32), wq_X1_gutterPasses_65 c_this_head c_this_living c_this_dotsPrinted x1 post (wq_X1_gutterPasses_7 c_this_head c_this_living c_this_dotsPrinted x1 post Ke_92 n) Ke_92 y32 y33 z34 → jx k G A 6 0 0 [job p_this 1 [.ref p_this_picture, .ref p_this_head, .ref p_this_living, .ref p_this_hitCount, .ref p_this_hitPlace, .ref p_this_printingHit, .ref p_this_missedDots, .ref p_this_firstPass, .ref p_this_lastPass, .ref p_this_dotsPrinted, .ref p_this_gutter, .int f_this_strayed, .ref p_this_canColumns, .ref p_this_canCount], jai G p_this_head 9 c_this_head, jai G p_this_living 8 c_this_living, jai G p_this_dotsPrinted 96 c_this_dotsPrinted] 65 [(0, .ref p_this), (1, .int x1), (2, .int y32), (4, .int y33)] [.int z34] := by
        intro y32 y33 z34 h
        unfold wq_X1_gutterPasses_65 at h
        refine jx_istore_n (lv' := [(3, .int z34), (0, .ref p_this), (1, .int x1), (2, .int y32), (4, .int y33)]) hk dX1_gutterPasses_65 rfl (by decide) rfl ?_
        refine jx_iload_n hk dX1_gutterPasses_66 rfl 0 rfl ?_
        refine jx_aload_n hk dX1_gutterPasses_67 rfl 1 rfl ?_
        refine jx_get (C := RX1) (T := TX1) (N := 14) (ci := 1) (v := .ref p_this_head) hk hiX1 0 rfl rfl 1 (by decide) (List.mem_of_getElem? (i := 1) rfl) rfl dX1_gutterPasses_68 ?_
        refine jx_bipush (v := 6) hk dX1_gutterPasses_71 (by decide) ?_
        refine jx_ialoadC (j := 6) hk dX1_gutterPasses_73 1 rfl (by decide) ?_
        refine jx_icmp_ne (tgt := 86) hk dX1_gutterPasses_74 (by decide) (fun c35 => ?_) (fun c35 => ?_)
        · replace h := h.1 c35
          refine jx_iincN (lvf := fun vq => [(4, .int vq), (3, .int z34), (0, .ref p_this), (1, .int x1), (2, .int y32)]) (c := 1) hk dX1_gutterPasses_86 4 rfl (by decide) (by decide) (fun _ => rfl) (fun v36 e37 => ?_)
          replace h := h v36 e37
          refine jx_goto (tgt := 7) hk dX1_gutterPasses_89 (by decide) ?_
          refine jx_lvs (lv' := [(0, .ref p_this), (1, .int x1), (2, .int y32), (3, .int z34), (4, .int v36)]) [2, 3, 4, 1, 0] rfl ?_
          exact ih _ _ _ h
        · replace h := h.2 c35
          refine jx_iload_n hk dX1_gutterPasses_77 rfl 3 rfl ?_
          refine jx_iconst (v := 1) hk dX1_gutterPasses_78 (by decide) ?_
          refine jx_iload hk dX1_gutterPasses_79 4 rfl ?_
          refine jx_ishl hk dX1_gutterPasses_81 ?_
          refine jx_ior hk dX1_gutterPasses_82 ?_
          refine jx_topi (fun v38 e39 => ?_)
          replace h := h v38 e39
          refine jx_istore_n (lv' := [(2, .int v38), (3, .int z34), (0, .ref p_this), (1, .int x1), (4, .int y33)]) hk dX1_gutterPasses_83 rfl (by decide) rfl ?_
          refine jx_iconst (v := 0) hk dX1_gutterPasses_84 (by decide) ?_
          refine jx_istore_n (lv' := [(3, .int (0 : Int32)), (2, .int v38), (0, .ref p_this), (1, .int x1), (4, .int y33)]) hk dX1_gutterPasses_85 rfl (by decide) rfl ?_
          refine jx_iincN (lvf := fun vq => [(4, .int vq), (3, .int (0 : Int32)), (2, .int v38), (0, .ref p_this), (1, .int x1)]) (c := 1) hk dX1_gutterPasses_86 4 rfl (by decide) (by decide) (fun _ => rfl) (fun v40 e41 => ?_)
          replace h := h v40 e41
          refine jx_goto (tgt := 7) hk dX1_gutterPasses_89 (by decide) ?_
          refine jx_lvs (lv' := [(0, .ref p_this), (1, .int x1), (2, .int v38), (3, .int (0 : Int32)), (4, .int v40)]) [3, 4, 2, 1, 0] rfl ?_
          exact ih _ _ _ h
      refine jx_iload hk dX1_gutterPasses_7 4 rfl ?_
      refine jx_aload_n hk dX1_gutterPasses_9 rfl 0 rfl ?_
      refine jx_get (C := RX1) (T := TX1) (N := 14) (ci := 1) (v := .ref p_this_head) hk hiX1 0 rfl rfl 1 (by decide) (List.mem_of_getElem? (i := 1) rfl) rfl dX1_gutterPasses_10 ?_
      refine jx_iconst (v := 3) hk dX1_gutterPasses_13 (by decide) ?_
      refine jx_ialoadC (j := 3) hk dX1_gutterPasses_14 1 rfl (by decide) ?_
      refine jx_icmp_ge (tgt := 92) hk dX1_gutterPasses_15 (by decide) (fun c42 => ?_) (fun c42 => ?_)
      · replace h := h.1 c42
        refine jx_lvs (lv' := [(2, .int i29)]) [2] rfl ?_
        exact hE_92 _ h
      · replace h := h.2 c42
        refine jx_aload_n hk dX1_gutterPasses_18 rfl 0 rfl ?_
        refine jx_get (C := RX1) (T := TX1) (N := 14) (ci := 1) (v := .ref p_this_living) hk hiX1 0 rfl rfl 2 (by decide) (List.mem_of_getElem? (i := 2) rfl) rfl dX1_gutterPasses_19 ?_
        refine jx_iload_n hk dX1_gutterPasses_22 rfl 1 rfl ?_
        refine jx_iload hk dX1_gutterPasses_23 4 rfl ?_
        refine jx_callSi (wr := [job p_this 1 [.ref p_this_picture, .ref p_this_head, .ref p_this_living, .ref p_this_hitCount, .ref p_this_hitPlace, .ref p_this_printingHit, .ref p_this_missedDots, .ref p_this_firstPass, .ref p_this_lastPass, .ref p_this_dotsPrinted, .ref p_this_gutter, .int f_this_strayed, .ref p_this_canColumns, .ref p_this_canCount], jai G p_this_head 9 c_this_head, jai G p_this_dotsPrinted 96 c_this_dotsPrinted]) (ws2 := fun u43 => [job p_this 1 [.ref p_this_picture, .ref p_this_head, .ref p_this_living, .ref p_this_hitCount, .ref p_this_hitPlace, .ref p_this_printingHit, .ref p_this_missedDots, .ref p_this_firstPass, .ref p_this_lastPass, .ref p_this_dotsPrinted, .ref p_this_gutter, .int f_this_strayed, .ref p_this_canColumns, .ref p_this_canCount], jai G p_this_head 9 c_this_head, jai G p_this_living 8 c_this_living, jai G p_this_dotsPrinted 96 c_this_dotsPrinted]) hk (c_X1_isLiving l G p_this_living c_this_living x1 i31 _ h) gX1_gutterPasses_X1_isLiving nd0_X1_isLiving rfl rfl rfl ⟨Nat.le_of_ble_eq_true rfl, Nat.le_of_ble_eq_true rfl⟩ [2] [0, 1, 3] [0, 1, 3, 2] rfl rfl rfl rfl (by decide) rfl (fun _ => rfl) dX1_gutterPasses_25 rfl (Nat.le_of_ble_eq_true rfl) ⟨Nat.zero_le _, Nat.zero_le _⟩ (fun r44 u43 h => ?_)
        refine jx_if_eq (tgt := 50) hk dX1_gutterPasses_28 (by decide) (fun c45 => ?_) (fun c45 => ?_)
        · replace h := h.1 c45
          refine jx_iconst (v := 0) hk dX1_gutterPasses_50 (by decide) ?_
          refine jx_istore (lv' := [(5, .int (0 : Int32)), (0, .ref p_this), (1, .int x1), (2, .int i29), (3, .int i30), (4, .int i31)]) hk dX1_gutterPasses_51 (by decide) rfl ?_
          refine jx_iload hk dX1_gutterPasses_53 0 rfl ?_
          refine jx_if_eq (tgt := 64) hk dX1_gutterPasses_55 (by decide) (fun c46 => ?_) (fun c46 => ?_)
          · replace h := h.1 c46
            refine jx_iconst (v := 0) hk dX1_gutterPasses_64 (by decide) ?_
            refine jx_lvs (lv' := [(0, .ref p_this), (1, .int x1), (2, .int i29), (4, .int i31)]) [1, 2, 3, 5] rfl ?_
            exact J65 _ _ _ h
          · replace h := h.2 c46
            refine jx_iload_n hk dX1_gutterPasses_58 rfl 4 rfl ?_
            refine jx_iconst (v := 1) hk dX1_gutterPasses_59 (by decide) ?_
            refine jx_iadd hk dX1_gutterPasses_60 ?_
            refine jx_topi (fun v47 e48 => ?_)
            replace h := h v47 e48
            refine jx_goto (tgt := 65) hk dX1_gutterPasses_61 (by decide) ?_
            refine jx_lvs (lv' := [(0, .ref p_this), (1, .int x1), (2, .int i29), (4, .int i31)]) [1, 2, 3, 5] rfl ?_
            exact J65 _ _ _ h
        · replace h := h.2 c45
          refine jx_aload_n hk dX1_gutterPasses_31 rfl 0 rfl ?_
          refine jx_get (C := RX1) (T := TX1) (N := 14) (ci := 1) (v := .ref p_this_dotsPrinted) hk hiX1 0 rfl rfl 9 (by decide) (List.mem_of_getElem? (i := 3) rfl) rfl dX1_gutterPasses_32 ?_
          refine jx_iload hk dX1_gutterPasses_35 4 rfl ?_
          refine jx_bipush (v := 8) hk dX1_gutterPasses_37 (by decide) ?_
          refine jx_imul hk dX1_gutterPasses_39 ?_
          refine jx_topi (fun v49 e50 => ?_)
          replace h := h v49 e50
          refine jx_iload_n hk dX1_gutterPasses_40 rfl 1 rfl ?_
          refine jx_iadd hk dX1_gutterPasses_41 ?_
          refine jx_topi (fun v51 e52 => ?_)
          replace h := h v51 e52
          obtain ⟨b53, h⟩ := h
          refine jx_iaload hk dX1_gutterPasses_42 3 rfl b53 ?_
          refine jx_if_ne (tgt := 50) hk dX1_gutterPasses_43 (by decide) (fun c54 => ?_) (fun c54 => ?_)
          · replace h := h.1 c54
            refine jx_iconst (v := 0) hk dX1_gutterPasses_50 (by decide) ?_
            refine jx_istore (lv' := [(5, .int (0 : Int32)), (0, .ref p_this), (1, .int x1), (2, .int i29), (3, .int i30), (4, .int i31)]) hk dX1_gutterPasses_51 (by decide) rfl ?_
            refine jx_iload hk dX1_gutterPasses_53 0 rfl ?_
            refine jx_if_eq (tgt := 64) hk dX1_gutterPasses_55 (by decide) (fun c55 => ?_) (fun c55 => ?_)
            · replace h := h.1 c55
              refine jx_iconst (v := 0) hk dX1_gutterPasses_64 (by decide) ?_
              refine jx_lvs (lv' := [(0, .ref p_this), (1, .int x1), (2, .int i29), (4, .int i31)]) [1, 2, 3, 5] rfl ?_
              exact J65 _ _ _ h
            · replace h := h.2 c55
              refine jx_iload_n hk dX1_gutterPasses_58 rfl 4 rfl ?_
              refine jx_iconst (v := 1) hk dX1_gutterPasses_59 (by decide) ?_
              refine jx_iadd hk dX1_gutterPasses_60 ?_
              refine jx_topi (fun v56 e57 => ?_)
              replace h := h v56 e57
              refine jx_goto (tgt := 65) hk dX1_gutterPasses_61 (by decide) ?_
              refine jx_lvs (lv' := [(0, .ref p_this), (1, .int x1), (2, .int i29), (4, .int i31)]) [1, 2, 3, 5] rfl ?_
              exact J65 _ _ _ h
          · replace h := h.2 c54
            refine jx_iconst (v := 1) hk dX1_gutterPasses_46 (by decide) ?_
            refine jx_goto (tgt := 51) hk dX1_gutterPasses_47 (by decide) ?_
            refine jx_istore (lv' := [(5, .int (1 : Int32)), (0, .ref p_this), (1, .int x1), (2, .int i29), (3, .int i30), (4, .int i31)]) hk dX1_gutterPasses_51 (by decide) rfl ?_
            refine jx_iload hk dX1_gutterPasses_53 0 rfl ?_
            refine jx_if_eq (tgt := 64) hk dX1_gutterPasses_55 (by decide) (fun c58 => ?_) (fun c58 => ?_)
            · replace h := h.1 c58
              refine jx_iconst (v := 0) hk dX1_gutterPasses_64 (by decide) ?_
              refine jx_lvs (lv' := [(0, .ref p_this), (1, .int x1), (2, .int i29), (4, .int i31)]) [1, 2, 3, 5] rfl ?_
              exact J65 _ _ _ h
            · replace h := h.2 c58
              refine jx_iload_n hk dX1_gutterPasses_58 rfl 4 rfl ?_
              refine jx_iconst (v := 1) hk dX1_gutterPasses_59 (by decide) ?_
              refine jx_iadd hk dX1_gutterPasses_60 ?_
              refine jx_topi (fun v59 e60 => ?_)
              replace h := h v59 e60
              refine jx_goto (tgt := 65) hk dX1_gutterPasses_61 (by decide) ?_
              refine jx_lvs (lv' := [(0, .ref p_this), (1, .int x1), (2, .int i29), (4, .int i31)]) [1, 2, 3, 5] rfl ?_
              exact J65 _ _ _ h
  refine jx_lvs (lv' := [(0, .ref p_this), (1, .int x1), (2, .int (0 : Int32)), (3, .int (0 : Int32)), (4, .int (0 : Int32))]) [3, 4, 2, 1, 0] rfl ?_
  refine L7 _ ?_ n28 _ _ _ h
  intro e27 h
  refine jx_iload_n hk dX1_gutterPasses_92 rfl 0 rfl ?_
  exact hret e27 () _ _ dX1_gutterPasses_93 h
set_option maxHeartbeats 4000000 in
set_option maxRecDepth 100000 in
theorem c_X1_print (l : Launch) (G : jG) (p_this p_this_picture p_this_head p_this_living p_this_hitCount p_this_hitPlace p_this_printingHit p_this_missedDots p_this_firstPass p_this_lastPass p_this_dotsPrinted p_this_gutter p_this_canColumns p_this_canCount : Nat) (f_this_strayed : Int32) (c_this_picture : Nat → Int32) (c_this_head : Nat → Int32) (c_this_living : Nat → Int32) (c_this_hitCount : Nat → Int32) (c_this_hitPlace : Nat → Int32) (c_this_printingHit : Nat → Int32) (c_this_missedDots : Nat → Int32) (c_this_firstPass : Nat → Int32) (c_this_lastPass : Nat → Int32) (c_this_dotsPrinted : Nat → Int32) (c_this_gutter : Nat → Int32) (c_this_canColumns : Nat → Int32) (c_this_canCount : Nat → Int32) (post : (Int32 × (Nat → Int32) × (Nat → Int32) × (Nat → Int32) × (Nat → Int32) × (Nat → Int32) × (Nat → Int32) × (Nat → Int32) × (Nat → Int32) × (Nat → Int32) × (Nat → Int32)) → Prop) (h : wp_X1_print f_this_strayed c_this_picture c_this_head c_this_living c_this_hitCount c_this_hitPlace c_this_printingHit c_this_missedDots c_this_firstPass c_this_lastPass c_this_dotsPrinted c_this_gutter c_this_canColumns c_this_canCount post) : jmv l yX1_print wsX1_print { frames := 4, cells := 0, slots := 0, locals := 93 } G [.ref p_this] [job p_this 1 [.ref p_this_picture, .ref p_this_head, .ref p_this_living, .ref p_this_hitCount, .ref p_this_hitPlace, .ref p_this_printingHit, .ref p_this_missedDots, .ref p_this_firstPass, .ref p_this_lastPass, .ref p_this_dotsPrinted, .ref p_this_gutter, .int f_this_strayed, .ref p_this_canColumns, .ref p_this_canCount], jai G p_this_picture 16 c_this_picture, jai G p_this_head 9 c_this_head, jai G p_this_living 8 c_this_living, jai G p_this_hitCount 16 c_this_hitCount, jai G p_this_hitPlace 192 c_this_hitPlace, jai G p_this_printingHit 128 c_this_printingHit, jai G p_this_missedDots 16 c_this_missedDots, jai G p_this_firstPass 16 c_this_firstPass, jai G p_this_lastPass 16 c_this_lastPass, jai G p_this_dotsPrinted 96 c_this_dotsPrinted, jai G p_this_gutter 8 c_this_gutter, jai G p_this_canColumns 12 c_this_canColumns, jai G p_this_canCount 8 c_this_canCount] (fun u : Int32 × (Nat → Int32) × (Nat → Int32) × (Nat → Int32) × (Nat → Int32) × (Nat → Int32) × (Nat → Int32) × (Nat → Int32) × (Nat → Int32) × (Nat → Int32) × (Nat → Int32) => [job p_this 1 [.ref p_this_picture, .ref p_this_head, .ref p_this_living, .ref p_this_hitCount, .ref p_this_hitPlace, .ref p_this_printingHit, .ref p_this_missedDots, .ref p_this_firstPass, .ref p_this_lastPass, .ref p_this_dotsPrinted, .ref p_this_gutter, .int u.1, .ref p_this_canColumns, .ref p_this_canCount], jai G p_this_picture 16 c_this_picture, jai G p_this_head 9 c_this_head, jai G p_this_living 8 c_this_living, jai G p_this_hitCount 16 u.2.1, jai G p_this_hitPlace 192 u.2.2.1, jai G p_this_printingHit 128 u.2.2.2.1, jai G p_this_missedDots 16 u.2.2.2.2.1, jai G p_this_firstPass 16 u.2.2.2.2.2.1, jai G p_this_lastPass 16 u.2.2.2.2.2.2.1, jai G p_this_dotsPrinted 96 u.2.2.2.2.2.2.2.1, jai G p_this_gutter 8 u.2.2.2.2.2.2.2.2.1, jai G p_this_canColumns 12 u.2.2.2.2.2.2.2.2.2.1, jai G p_this_canCount 8 u.2.2.2.2.2.2.2.2.2.2]) post 0 0 := by
  refine jm_v (cc := cX1_print) (maxL := 2) (by decide) rfl (Nat.le_of_ble_eq_true rfl) ?_
  intro k A hk hin hret
  unfold wp_X1_print at h
  have hiX1 : ∀ w ∈ u_ws RX1 TX1 14, w ∈ wsX1_print := (fun w h => List.mem_cons_of_mem _ (List.mem_append_right _ h))
  show jx k G A 2 0 0 [job p_this 1 [.ref p_this_picture, .ref p_this_head, .ref p_this_living, .ref p_this_hitCount, .ref p_this_hitPlace, .ref p_this_printingHit, .ref p_this_missedDots, .ref p_this_firstPass, .ref p_this_lastPass, .ref p_this_dotsPrinted, .ref p_this_gutter, .int f_this_strayed, .ref p_this_canColumns, .ref p_this_canCount], jai G p_this_picture 16 c_this_picture, jai G p_this_head 9 c_this_head, jai G p_this_living 8 c_this_living, jai G p_this_hitCount 16 c_this_hitCount, jai G p_this_hitPlace 192 c_this_hitPlace, jai G p_this_printingHit 128 c_this_printingHit, jai G p_this_missedDots 16 c_this_missedDots, jai G p_this_firstPass 16 c_this_firstPass, jai G p_this_lastPass 16 c_this_lastPass, jai G p_this_dotsPrinted 96 c_this_dotsPrinted, jai G p_this_gutter 8 c_this_gutter, jai G p_this_canColumns 12 c_this_canColumns, jai G p_this_canCount 8 c_this_canCount] 0 [(0, .ref p_this)] []
  refine jx_aload_n hk dX1_print_0 rfl 0 rfl ?_
  refine jx_callVv (wr := [jai G p_this_picture 16 c_this_picture, jai G p_this_living 8 c_this_living, jai G p_this_printingHit 128 c_this_printingHit, jai G p_this_missedDots 16 c_this_missedDots, jai G p_this_firstPass 16 c_this_firstPass, jai G p_this_lastPass 16 c_this_lastPass, jai G p_this_dotsPrinted 96 c_this_dotsPrinted, jai G p_this_gutter 8 c_this_gutter, jai G p_this_canColumns 12 c_this_canColumns, jai G p_this_canCount 8 c_this_canCount]) (ws2 := fun u16 => [job p_this 1 [.ref p_this_picture, .ref p_this_head, .ref p_this_living, .ref p_this_hitCount, .ref p_this_hitPlace, .ref p_this_printingHit, .ref p_this_missedDots, .ref p_this_firstPass, .ref p_this_lastPass, .ref p_this_dotsPrinted, .ref p_this_gutter, .int f_this_strayed, .ref p_this_canColumns, .ref p_this_canCount], jai G p_this_picture 16 c_this_picture, jai G p_this_head 9 c_this_head, jai G p_this_living 8 c_this_living, jai G p_this_hitCount 16 u16.1, jai G p_this_hitPlace 192 u16.2, jai G p_this_printingHit 128 c_this_printingHit, jai G p_this_missedDots 16 c_this_missedDots, jai G p_this_firstPass 16 c_this_firstPass, jai G p_this_lastPass 16 c_this_lastPass, jai G p_this_dotsPrinted 96 c_this_dotsPrinted, jai G p_this_gutter 8 c_this_gutter, jai G p_this_canColumns 12 c_this_canColumns, jai G p_this_canCount 8 c_this_canCount]) hk (c_X1_layHits l G p_this p_this_picture p_this_head p_this_living p_this_hitCount p_this_hitPlace p_this_printingHit p_this_missedDots p_this_firstPass p_this_lastPass p_this_dotsPrinted p_this_gutter p_this_canColumns p_this_canCount f_this_strayed c_this_head c_this_hitCount c_this_hitPlace _ h) 0 rfl rfl gX1_print_X1_layHits ndV_X1_layHits rfl rfl rfl ⟨Nat.le_of_ble_eq_true rfl, Nat.le_of_ble_eq_true rfl⟩ [0, 2, 4, 5] [1, 3, 6, 7, 8, 9, 10, 11, 12, 13] [10, 0, 11, 1, 12, 13, 2, 3, 4, 5, 6, 7, 8, 9] rfl rfl rfl rfl (by decide) rfl (fun _ => rfl) dX1_print_1 rfl (Nat.le_of_ble_eq_true rfl) ⟨Nat.zero_le _, Nat.zero_le _⟩ (fun u16 h => ?_)
  refine jx_aload_n hk dX1_print_4 rfl 0 rfl ?_
  refine jx_get (C := RX1) (T := TX1) (N := 14) (ci := 1) (v := .ref p_this_printingHit) hk hiX1 0 rfl rfl 5 (by decide) (List.mem_of_getElem? (i := 1) rfl) rfl dX1_print_5 ?_
  refine jx_iconst (v := (-1)) hk dX1_print_8 (by decide) ?_
  refine jx_callSv (wr := [job p_this 1 [.ref p_this_picture, .ref p_this_head, .ref p_this_living, .ref p_this_hitCount, .ref p_this_hitPlace, .ref p_this_printingHit, .ref p_this_missedDots, .ref p_this_firstPass, .ref p_this_lastPass, .ref p_this_dotsPrinted, .ref p_this_gutter, .int f_this_strayed, .ref p_this_canColumns, .ref p_this_canCount], jai G p_this_picture 16 c_this_picture, jai G p_this_head 9 c_this_head, jai G p_this_living 8 c_this_living, jai G p_this_hitCount 16 u16.1, jai G p_this_hitPlace 192 u16.2, jai G p_this_missedDots 16 c_this_missedDots, jai G p_this_firstPass 16 c_this_firstPass, jai G p_this_lastPass 16 c_this_lastPass, jai G p_this_dotsPrinted 96 c_this_dotsPrinted, jai G p_this_gutter 8 c_this_gutter, jai G p_this_canColumns 12 c_this_canColumns, jai G p_this_canCount 8 c_this_canCount]) (ws2 := fun u18 => [job p_this 1 [.ref p_this_picture, .ref p_this_head, .ref p_this_living, .ref p_this_hitCount, .ref p_this_hitPlace, .ref p_this_printingHit, .ref p_this_missedDots, .ref p_this_firstPass, .ref p_this_lastPass, .ref p_this_dotsPrinted, .ref p_this_gutter, .int f_this_strayed, .ref p_this_canColumns, .ref p_this_canCount], jai G p_this_picture 16 c_this_picture, jai G p_this_head 9 c_this_head, jai G p_this_living 8 c_this_living, jai G p_this_hitCount 16 u16.1, jai G p_this_hitPlace 192 u16.2, jai G p_this_printingHit 128 u18, jai G p_this_missedDots 16 c_this_missedDots, jai G p_this_firstPass 16 c_this_firstPass, jai G p_this_lastPass 16 c_this_lastPass, jai G p_this_dotsPrinted 96 c_this_dotsPrinted, jai G p_this_gutter 8 c_this_gutter, jai G p_this_canColumns 12 c_this_canColumns, jai G p_this_canCount 8 c_this_canCount]) hk (c_J7_fill_53178 l G p_this_printingHit 128 c_this_printingHit (-1 : Int32) _ h) gX1_print_J7_fill_53178 nd0_J7_fill_53178 rfl rfl rfl ⟨Nat.le_of_ble_eq_true rfl, Nat.le_of_ble_eq_true rfl⟩ [6] [0, 1, 2, 3, 4, 5, 7, 8, 9, 10, 11, 12, 13] [0, 1, 2, 3, 4, 5, 13, 6, 7, 8, 9, 10, 11, 12] rfl rfl rfl rfl (by decide) rfl (fun _ => rfl) dX1_print_9 rfl (Nat.le_of_ble_eq_true rfl) ⟨Nat.zero_le _, Nat.zero_le _⟩ (fun u18 h => ?_)
  refine jx_aload_n hk dX1_print_12 rfl 0 rfl ?_
  refine jx_get (C := RX1) (T := TX1) (N := 14) (ci := 1) (v := .ref p_this_missedDots) hk hiX1 0 rfl rfl 6 (by decide) (List.mem_of_getElem? (i := 2) rfl) rfl dX1_print_13 ?_
  refine jx_iconst (v := 0) hk dX1_print_16 (by decide) ?_
  refine jx_callSv (wr := [job p_this 1 [.ref p_this_picture, .ref p_this_head, .ref p_this_living, .ref p_this_hitCount, .ref p_this_hitPlace, .ref p_this_printingHit, .ref p_this_missedDots, .ref p_this_firstPass, .ref p_this_lastPass, .ref p_this_dotsPrinted, .ref p_this_gutter, .int f_this_strayed, .ref p_this_canColumns, .ref p_this_canCount], jai G p_this_picture 16 c_this_picture, jai G p_this_head 9 c_this_head, jai G p_this_living 8 c_this_living, jai G p_this_hitCount 16 u16.1, jai G p_this_hitPlace 192 u16.2, jai G p_this_printingHit 128 u18, jai G p_this_firstPass 16 c_this_firstPass, jai G p_this_lastPass 16 c_this_lastPass, jai G p_this_dotsPrinted 96 c_this_dotsPrinted, jai G p_this_gutter 8 c_this_gutter, jai G p_this_canColumns 12 c_this_canColumns, jai G p_this_canCount 8 c_this_canCount]) (ws2 := fun u20 => [job p_this 1 [.ref p_this_picture, .ref p_this_head, .ref p_this_living, .ref p_this_hitCount, .ref p_this_hitPlace, .ref p_this_printingHit, .ref p_this_missedDots, .ref p_this_firstPass, .ref p_this_lastPass, .ref p_this_dotsPrinted, .ref p_this_gutter, .int f_this_strayed, .ref p_this_canColumns, .ref p_this_canCount], jai G p_this_picture 16 c_this_picture, jai G p_this_head 9 c_this_head, jai G p_this_living 8 c_this_living, jai G p_this_hitCount 16 u16.1, jai G p_this_hitPlace 192 u16.2, jai G p_this_printingHit 128 u18, jai G p_this_missedDots 16 u20, jai G p_this_firstPass 16 c_this_firstPass, jai G p_this_lastPass 16 c_this_lastPass, jai G p_this_dotsPrinted 96 c_this_dotsPrinted, jai G p_this_gutter 8 c_this_gutter, jai G p_this_canColumns 12 c_this_canColumns, jai G p_this_canCount 8 c_this_canCount]) hk (c_J7_fill_53178 l G p_this_missedDots 16 c_this_missedDots (0 : Int32) _ h) gX1_print_J7_fill_53178 nd0_J7_fill_53178 rfl rfl rfl ⟨Nat.le_of_ble_eq_true rfl, Nat.le_of_ble_eq_true rfl⟩ [7] [0, 1, 2, 3, 4, 5, 6, 8, 9, 10, 11, 12, 13] [0, 1, 2, 3, 4, 5, 6, 13, 7, 8, 9, 10, 11, 12] rfl rfl rfl rfl (by decide) rfl (fun _ => rfl) dX1_print_17 rfl (Nat.le_of_ble_eq_true rfl) ⟨Nat.zero_le _, Nat.zero_le _⟩ (fun u20 h => ?_)
  refine jx_aload_n hk dX1_print_20 rfl 0 rfl ?_
  refine jx_get (C := RX1) (T := TX1) (N := 14) (ci := 1) (v := .ref p_this_firstPass) hk hiX1 0 rfl rfl 7 (by decide) (List.mem_of_getElem? (i := 3) rfl) rfl dX1_print_21 ?_
  refine jx_iconst (v := (-1)) hk dX1_print_24 (by decide) ?_
  refine jx_callSv (wr := [job p_this 1 [.ref p_this_picture, .ref p_this_head, .ref p_this_living, .ref p_this_hitCount, .ref p_this_hitPlace, .ref p_this_printingHit, .ref p_this_missedDots, .ref p_this_firstPass, .ref p_this_lastPass, .ref p_this_dotsPrinted, .ref p_this_gutter, .int f_this_strayed, .ref p_this_canColumns, .ref p_this_canCount], jai G p_this_picture 16 c_this_picture, jai G p_this_head 9 c_this_head, jai G p_this_living 8 c_this_living, jai G p_this_hitCount 16 u16.1, jai G p_this_hitPlace 192 u16.2, jai G p_this_printingHit 128 u18, jai G p_this_missedDots 16 u20, jai G p_this_lastPass 16 c_this_lastPass, jai G p_this_dotsPrinted 96 c_this_dotsPrinted, jai G p_this_gutter 8 c_this_gutter, jai G p_this_canColumns 12 c_this_canColumns, jai G p_this_canCount 8 c_this_canCount]) (ws2 := fun u22 => [job p_this 1 [.ref p_this_picture, .ref p_this_head, .ref p_this_living, .ref p_this_hitCount, .ref p_this_hitPlace, .ref p_this_printingHit, .ref p_this_missedDots, .ref p_this_firstPass, .ref p_this_lastPass, .ref p_this_dotsPrinted, .ref p_this_gutter, .int f_this_strayed, .ref p_this_canColumns, .ref p_this_canCount], jai G p_this_picture 16 c_this_picture, jai G p_this_head 9 c_this_head, jai G p_this_living 8 c_this_living, jai G p_this_hitCount 16 u16.1, jai G p_this_hitPlace 192 u16.2, jai G p_this_printingHit 128 u18, jai G p_this_missedDots 16 u20, jai G p_this_firstPass 16 u22, jai G p_this_lastPass 16 c_this_lastPass, jai G p_this_dotsPrinted 96 c_this_dotsPrinted, jai G p_this_gutter 8 c_this_gutter, jai G p_this_canColumns 12 c_this_canColumns, jai G p_this_canCount 8 c_this_canCount]) hk (c_J7_fill_53178 l G p_this_firstPass 16 c_this_firstPass (-1 : Int32) _ h) gX1_print_J7_fill_53178 nd0_J7_fill_53178 rfl rfl rfl ⟨Nat.le_of_ble_eq_true rfl, Nat.le_of_ble_eq_true rfl⟩ [8] [0, 1, 2, 3, 4, 5, 6, 7, 9, 10, 11, 12, 13] [0, 1, 2, 3, 4, 5, 6, 7, 13, 8, 9, 10, 11, 12] rfl rfl rfl rfl (by decide) rfl (fun _ => rfl) dX1_print_25 rfl (Nat.le_of_ble_eq_true rfl) ⟨Nat.zero_le _, Nat.zero_le _⟩ (fun u22 h => ?_)
  refine jx_aload_n hk dX1_print_28 rfl 0 rfl ?_
  refine jx_get (C := RX1) (T := TX1) (N := 14) (ci := 1) (v := .ref p_this_lastPass) hk hiX1 0 rfl rfl 8 (by decide) (List.mem_of_getElem? (i := 4) rfl) rfl dX1_print_29 ?_
  refine jx_iconst (v := (-1)) hk dX1_print_32 (by decide) ?_
  refine jx_callSv (wr := [job p_this 1 [.ref p_this_picture, .ref p_this_head, .ref p_this_living, .ref p_this_hitCount, .ref p_this_hitPlace, .ref p_this_printingHit, .ref p_this_missedDots, .ref p_this_firstPass, .ref p_this_lastPass, .ref p_this_dotsPrinted, .ref p_this_gutter, .int f_this_strayed, .ref p_this_canColumns, .ref p_this_canCount], jai G p_this_picture 16 c_this_picture, jai G p_this_head 9 c_this_head, jai G p_this_living 8 c_this_living, jai G p_this_hitCount 16 u16.1, jai G p_this_hitPlace 192 u16.2, jai G p_this_printingHit 128 u18, jai G p_this_missedDots 16 u20, jai G p_this_firstPass 16 u22, jai G p_this_dotsPrinted 96 c_this_dotsPrinted, jai G p_this_gutter 8 c_this_gutter, jai G p_this_canColumns 12 c_this_canColumns, jai G p_this_canCount 8 c_this_canCount]) (ws2 := fun u24 => [job p_this 1 [.ref p_this_picture, .ref p_this_head, .ref p_this_living, .ref p_this_hitCount, .ref p_this_hitPlace, .ref p_this_printingHit, .ref p_this_missedDots, .ref p_this_firstPass, .ref p_this_lastPass, .ref p_this_dotsPrinted, .ref p_this_gutter, .int f_this_strayed, .ref p_this_canColumns, .ref p_this_canCount], jai G p_this_picture 16 c_this_picture, jai G p_this_head 9 c_this_head, jai G p_this_living 8 c_this_living, jai G p_this_hitCount 16 u16.1, jai G p_this_hitPlace 192 u16.2, jai G p_this_printingHit 128 u18, jai G p_this_missedDots 16 u20, jai G p_this_firstPass 16 u22, jai G p_this_lastPass 16 u24, jai G p_this_dotsPrinted 96 c_this_dotsPrinted, jai G p_this_gutter 8 c_this_gutter, jai G p_this_canColumns 12 c_this_canColumns, jai G p_this_canCount 8 c_this_canCount]) hk (c_J7_fill_53178 l G p_this_lastPass 16 c_this_lastPass (-1 : Int32) _ h) gX1_print_J7_fill_53178 nd0_J7_fill_53178 rfl rfl rfl ⟨Nat.le_of_ble_eq_true rfl, Nat.le_of_ble_eq_true rfl⟩ [9] [0, 1, 2, 3, 4, 5, 6, 7, 8, 10, 11, 12, 13] [0, 1, 2, 3, 4, 5, 6, 7, 8, 13, 9, 10, 11, 12] rfl rfl rfl rfl (by decide) rfl (fun _ => rfl) dX1_print_33 rfl (Nat.le_of_ble_eq_true rfl) ⟨Nat.zero_le _, Nat.zero_le _⟩ (fun u24 h => ?_)
  refine jx_aload_n hk dX1_print_36 rfl 0 rfl ?_
  refine jx_get (C := RX1) (T := TX1) (N := 14) (ci := 1) (v := .ref p_this_dotsPrinted) hk hiX1 0 rfl rfl 9 (by decide) (List.mem_of_getElem? (i := 5) rfl) rfl dX1_print_37 ?_
  refine jx_iconst (v := 0) hk dX1_print_40 (by decide) ?_
  refine jx_callSv (wr := [job p_this 1 [.ref p_this_picture, .ref p_this_head, .ref p_this_living, .ref p_this_hitCount, .ref p_this_hitPlace, .ref p_this_printingHit, .ref p_this_missedDots, .ref p_this_firstPass, .ref p_this_lastPass, .ref p_this_dotsPrinted, .ref p_this_gutter, .int f_this_strayed, .ref p_this_canColumns, .ref p_this_canCount], jai G p_this_picture 16 c_this_picture, jai G p_this_head 9 c_this_head, jai G p_this_living 8 c_this_living, jai G p_this_hitCount 16 u16.1, jai G p_this_hitPlace 192 u16.2, jai G p_this_printingHit 128 u18, jai G p_this_missedDots 16 u20, jai G p_this_firstPass 16 u22, jai G p_this_lastPass 16 u24, jai G p_this_gutter 8 c_this_gutter, jai G p_this_canColumns 12 c_this_canColumns, jai G p_this_canCount 8 c_this_canCount]) (ws2 := fun u26 => [job p_this 1 [.ref p_this_picture, .ref p_this_head, .ref p_this_living, .ref p_this_hitCount, .ref p_this_hitPlace, .ref p_this_printingHit, .ref p_this_missedDots, .ref p_this_firstPass, .ref p_this_lastPass, .ref p_this_dotsPrinted, .ref p_this_gutter, .int f_this_strayed, .ref p_this_canColumns, .ref p_this_canCount], jai G p_this_picture 16 c_this_picture, jai G p_this_head 9 c_this_head, jai G p_this_living 8 c_this_living, jai G p_this_hitCount 16 u16.1, jai G p_this_hitPlace 192 u16.2, jai G p_this_printingHit 128 u18, jai G p_this_missedDots 16 u20, jai G p_this_firstPass 16 u22, jai G p_this_lastPass 16 u24, jai G p_this_dotsPrinted 96 u26, jai G p_this_gutter 8 c_this_gutter, jai G p_this_canColumns 12 c_this_canColumns, jai G p_this_canCount 8 c_this_canCount]) hk (c_J7_fill_53178 l G p_this_dotsPrinted 96 c_this_dotsPrinted (0 : Int32) _ h) gX1_print_J7_fill_53178 nd0_J7_fill_53178 rfl rfl rfl ⟨Nat.le_of_ble_eq_true rfl, Nat.le_of_ble_eq_true rfl⟩ [10] [0, 1, 2, 3, 4, 5, 6, 7, 8, 9, 11, 12, 13] [0, 1, 2, 3, 4, 5, 6, 7, 8, 9, 13, 10, 11, 12] rfl rfl rfl rfl (by decide) rfl (fun _ => rfl) dX1_print_41 rfl (Nat.le_of_ble_eq_true rfl) ⟨Nat.zero_le _, Nat.zero_le _⟩ (fun u26 h => ?_)
  refine jx_aload_n hk dX1_print_44 rfl 0 rfl ?_
  refine jx_iconst (v := 0) hk dX1_print_45 (by decide) ?_
  refine jx_put (C := RX1) (T := TX1) (N := 14) (ci := 1) (v := .int (0 : Int32)) (ty := .int) (ws' := [job p_this 1 [.ref p_this_picture, .ref p_this_head, .ref p_this_living, .ref p_this_hitCount, .ref p_this_hitPlace, .ref p_this_printingHit, .ref p_this_missedDots, .ref p_this_firstPass, .ref p_this_lastPass, .ref p_this_dotsPrinted, .ref p_this_gutter, .int (0 : Int32), .ref p_this_canColumns, .ref p_this_canCount], jai G p_this_picture 16 c_this_picture, jai G p_this_head 9 c_this_head, jai G p_this_living 8 c_this_living, jai G p_this_hitCount 16 u16.1, jai G p_this_hitPlace 192 u16.2, jai G p_this_printingHit 128 u18, jai G p_this_missedDots 16 u20, jai G p_this_firstPass 16 u22, jai G p_this_lastPass 16 u24, jai G p_this_dotsPrinted 96 u26, jai G p_this_gutter 8 c_this_gutter, jai G p_this_canColumns 12 c_this_canColumns, jai G p_this_canCount 8 c_this_canCount]) hk hiX1 tyX1 tyX1_ok nmX1 0 rfl rfl 11 (by decide) (List.mem_of_getElem? (i := 6) rfl) rfl (tyX1_ok 11 (by decide)) rfl rfl (Nat.le_of_ble_eq_true rfl) dX1_print_46 rfl ?_
  refine jx_iconst (v := 0) hk dX1_print_49 (by decide) ?_
  refine jx_istore_n (lv' := [(1, .int (0 : Int32)), (0, .ref p_this)]) hk dX1_print_50 rfl (by decide) rfl ?_
  obtain ⟨n50, h⟩ := h
  have L51 : ∀ (Ke_68 : (Int32) → (Nat → Int32) → (Nat → Int32) → (Nat → Int32) → (Nat → Int32) → (Nat → Int32) → (Nat → Int32) → (Nat → Int32) → Prop), (∀ (d28 : Int32) (d29 : Nat → Int32) (d30 : Nat → Int32) (d31 : Nat → Int32) (d32 : Nat → Int32) (d33 : Nat → Int32) (d34 : Nat → Int32) (d35 : Nat → Int32), Ke_68 d28 d29 d30 d31 d32 d33 d34 d35 → jx k G A 2 0 0 [job p_this 1 [.ref p_this_picture, .ref p_this_head, .ref p_this_living, .ref p_this_hitCount, .ref p_this_hitPlace, .ref p_this_printingHit, .ref p_this_missedDots, .ref p_this_firstPass, .ref p_this_lastPass, .ref p_this_dotsPrinted, .ref p_this_gutter, .int d28, .ref p_this_canColumns, .ref p_this_canCount], jai G p_this_picture 16 c_this_picture, jai G p_this_head 9 c_this_head, jai G p_this_living 8 c_this_living, jai G p_this_hitCount 16 u16.1, jai G p_this_hitPlace 192 u16.2, jai G p_this_printingHit 128 d29, jai G p_this_missedDots 16 d30, jai G p_this_firstPass 16 d31, jai G p_this_lastPass 16 d32, jai G p_this_dotsPrinted 96 d33, jai G p_this_gutter 8 c_this_gutter, jai G p_this_canColumns 12 d34, jai G p_this_canCount 8 d35] 68 [(0, .ref p_this)] []) → ∀ (n : Nat) (i51 : Int32) (w52 : Int32) (w53 : Nat → Int32) (w54 : Nat → Int32) (w55 : Nat → Int32) (w56 : Nat → Int32) (w57 : Nat → Int32) (w58 : Nat → Int32) (w59 : Nat → Int32), wq_X1_print_51 c_this_picture c_this_head c_this_living u16.1 u16.2 c_this_gutter post Ke_68 n i51 w52 w53 w54 w55 w56 w57 w58 w59 → jx k G A 2 0 0 [job p_this 1 [.ref p_this_picture, .ref p_this_head, .ref p_this_living, .ref p_this_hitCount, .ref p_this_hitPlace, .ref p_this_printingHit, .ref p_this_missedDots, .ref p_this_firstPass, .ref p_this_lastPass, .ref p_this_dotsPrinted, .ref p_this_gutter, .int w52, .ref p_this_canColumns, .ref p_this_canCount], jai G p_this_picture 16 c_this_picture, jai G p_this_head 9 c_this_head, jai G p_this_living 8 c_this_living, jai G p_this_hitCount 16 u16.1, jai G p_this_hitPlace 192 u16.2, jai G p_this_printingHit 128 w53, jai G p_this_missedDots 16 w54, jai G p_this_firstPass 16 w55, jai G p_this_lastPass 16 w56, jai G p_this_dotsPrinted 96 w57, jai G p_this_gutter 8 c_this_gutter, jai G p_this_canColumns 12 w58, jai G p_this_canCount 8 w59] 51 [(0, .ref p_this), (1, .int i51)] [] := by
    intro Ke_68 hE_68 n
    induction n with
    | zero =>
      intro _ _ _ _ _ _ _ _ _ h
      exact h.elim
    | succ n ih =>
      intro i51 w52 w53 w54 w55 w56 w57 w58 w59 h
      unfold wq_X1_print_51 at h
      refine jx_iload_n hk dX1_print_51 rfl 1 rfl ?_
      refine jx_bipush (v := 16) hk dX1_print_52 (by decide) ?_
      refine jx_icmp_ge (tgt := 68) hk dX1_print_54 (by decide) (fun c60 => ?_) (fun c60 => ?_)
      · replace h := h.1 c60
        refine jx_lvs (lv' := [(0, .ref p_this)]) [0] rfl ?_
        exact hE_68 _ _ _ _ _ _ _ _ h
      · replace h := h.2 c60
        refine jx_aload_n hk dX1_print_57 rfl 0 rfl ?_
        refine jx_iload_n hk dX1_print_58 rfl 1 rfl ?_
        refine jx_callVv (wr := [jai G p_this_gutter 8 c_this_gutter]) (ws2 := fun u61 => [job p_this 1 [.ref p_this_picture, .ref p_this_head, .ref p_this_living, .ref p_this_hitCount, .ref p_this_hitPlace, .ref p_this_printingHit, .ref p_this_missedDots, .ref p_this_firstPass, .ref p_this_lastPass, .ref p_this_dotsPrinted, .ref p_this_gutter, .int u61.1, .ref p_this_canColumns, .ref p_this_canCount], jai G p_this_picture 16 c_this_picture, jai G p_this_head 9 c_this_head, jai G p_this_living 8 c_this_living, jai G p_this_hitCount 16 u16.1, jai G p_this_hitPlace 192 u16.2, jai G p_this_printingHit 128 u61.2.1, jai G p_this_missedDots 16 u61.2.2.1, jai G p_this_firstPass 16 u61.2.2.2.1, jai G p_this_lastPass 16 u61.2.2.2.2.1, jai G p_this_dotsPrinted 96 u61.2.2.2.2.2.1, jai G p_this_gutter 8 c_this_gutter, jai G p_this_canColumns 12 u61.2.2.2.2.2.2.1, jai G p_this_canCount 8 u61.2.2.2.2.2.2.2]) hk (c_X1_printLine l G p_this p_this_picture p_this_head p_this_living p_this_hitCount p_this_hitPlace p_this_printingHit p_this_missedDots p_this_firstPass p_this_lastPass p_this_dotsPrinted p_this_gutter p_this_canColumns p_this_canCount w52 c_this_picture c_this_head c_this_living u16.1 u16.2 w53 w54 w55 w56 w57 w58 w59 i51 _ h) 0 rfl rfl gX1_print_X1_printLine ndV_X1_printLine rfl rfl rfl ⟨Nat.le_of_ble_eq_true rfl, Nat.le_of_ble_eq_true rfl⟩ [0, 1, 2, 3, 4, 5, 6, 7, 8, 9, 10, 12, 13] [11] [1, 2, 3, 4, 5, 6, 7, 8, 9, 10, 11, 0, 12, 13] rfl rfl rfl rfl (by decide) rfl (fun _ => rfl) dX1_print_59 rfl (Nat.le_of_ble_eq_true rfl) ⟨Nat.zero_le _, Nat.zero_le _⟩ (fun u61 h => ?_)
        refine jx_iincN (lvf := fun vq => [(1, .int vq), (0, .ref p_this)]) (c := 1) hk dX1_print_62 1 rfl (by decide) (by decide) (fun _ => rfl) (fun v63 e64 => ?_)
        replace h := h v63 e64
        refine jx_goto (tgt := 51) hk dX1_print_65 (by decide) ?_
        refine jx_lvs (lv' := [(0, .ref p_this), (1, .int v63)]) [1, 0] rfl ?_
        exact ih _ _ _ _ _ _ _ _ _ h
  refine jx_lvs (lv' := [(0, .ref p_this), (1, .int (0 : Int32))]) [1, 0] rfl ?_
  refine L51 _ ?_ n50 _ _ _ _ _ _ _ _ _ h
  intro d28 d29 d30 d31 d32 d33 d34 d35 h
  refine jx_iconst (v := 0) hk dX1_print_68 (by decide) ?_
  refine jx_istore_n (lv' := [(1, .int (0 : Int32)), (0, .ref p_this)]) hk dX1_print_69 rfl (by decide) rfl ?_
  obtain ⟨n37, h⟩ := h
  have L70 : ∀ (Ke_107 : (Nat → Int32) → Prop), (∀ (d36 : Nat → Int32), Ke_107 d36 → jx k G A 2 0 0 [job p_this 1 [.ref p_this_picture, .ref p_this_head, .ref p_this_living, .ref p_this_hitCount, .ref p_this_hitPlace, .ref p_this_printingHit, .ref p_this_missedDots, .ref p_this_firstPass, .ref p_this_lastPass, .ref p_this_dotsPrinted, .ref p_this_gutter, .int d28, .ref p_this_canColumns, .ref p_this_canCount], jai G p_this_picture 16 c_this_picture, jai G p_this_head 9 c_this_head, jai G p_this_living 8 c_this_living, jai G p_this_hitCount 16 u16.1, jai G p_this_hitPlace 192 u16.2, jai G p_this_printingHit 128 d29, jai G p_this_missedDots 16 d30, jai G p_this_firstPass 16 d31, jai G p_this_lastPass 16 d32, jai G p_this_dotsPrinted 96 d33, jai G p_this_gutter 8 d36, jai G p_this_canColumns 12 d34, jai G p_this_canCount 8 d35] 107 [] []) → ∀ (n : Nat) (i38 : Int32) (w39 : Nat → Int32), wq_X1_print_70 c_this_picture c_this_head c_this_living d28 u16.1 u16.2 d29 d30 d31 d32 d33 d34 d35 post Ke_107 n i38 w39 → jx k G A 2 0 0 [job p_this 1 [.ref p_this_picture, .ref p_this_head, .ref p_this_living, .ref p_this_hitCount, .ref p_this_hitPlace, .ref p_this_printingHit, .ref p_this_missedDots, .ref p_this_firstPass, .ref p_this_lastPass, .ref p_this_dotsPrinted, .ref p_this_gutter, .int d28, .ref p_this_canColumns, .ref p_this_canCount], jai G p_this_picture 16 c_this_picture, jai G p_this_head 9 c_this_head, jai G p_this_living 8 c_this_living, jai G p_this_hitCount 16 u16.1, jai G p_this_hitPlace 192 u16.2, jai G p_this_printingHit 128 d29, jai G p_this_missedDots 16 d30, jai G p_this_firstPass 16 d31, jai G p_this_lastPass 16 d32, jai G p_this_dotsPrinted 96 d33, jai G p_this_gutter 8 w39, jai G p_this_canColumns 12 d34, jai G p_this_canCount 8 d35] 70 [(0, .ref p_this), (1, .int i38)] [] := by
    intro Ke_107 hE_107 n
    induction n with
    | zero =>
      intro _ _ h
      exact h.elim
    | succ n ih =>
      intro i38 w39 h
      unfold wq_X1_print_70 at h
      refine jx_iload_n hk dX1_print_70 rfl 1 rfl ?_
      refine jx_bipush (v := 8) hk dX1_print_71 (by decide) ?_
      refine jx_icmp_ge (tgt := 107) hk dX1_print_73 (by decide) (fun c40 => ?_) (fun c40 => ?_)
      · replace h := h.1 c40
        refine jx_lvs (lv' := []) [] rfl ?_
        exact hE_107 _ h
      · replace h := h.2 c40
        refine jx_aload_n hk dX1_print_76 rfl 0 rfl ?_
        refine jx_get (C := RX1) (T := TX1) (N := 14) (ci := 1) (v := .ref p_this_gutter) hk hiX1 0 rfl rfl 10 (by decide) (List.mem_of_getElem? (i := 7) rfl) rfl dX1_print_77 ?_
        refine jx_iload_n hk dX1_print_80 rfl 1 rfl ?_
        refine jx_iload_n hk dX1_print_81 rfl 1 rfl ?_
        refine jx_aload_n hk dX1_print_82 rfl 0 rfl ?_
        refine jx_get (C := RX1) (T := TX1) (N := 14) (ci := 1) (v := .ref p_this_head) hk hiX1 0 rfl rfl 1 (by decide) (List.mem_of_getElem? (i := 8) rfl) rfl dX1_print_83 ?_
        refine jx_iconst (v := 0) hk dX1_print_86 (by decide) ?_
        refine jx_ialoadC (j := 0) hk dX1_print_87 2 rfl (by decide) ?_
        refine jx_icmp_ge (tgt := 99) hk dX1_print_88 (by decide) (fun c41 => ?_) (fun c41 => ?_)
        · replace h := h.1 c41
          refine jx_iconst (v := 0) hk dX1_print_99 (by decide) ?_
          obtain ⟨b42, h⟩ := h
          refine jx_iastore (ws' := [job p_this 1 [.ref p_this_picture, .ref p_this_head, .ref p_this_living, .ref p_this_hitCount, .ref p_this_hitPlace, .ref p_this_printingHit, .ref p_this_missedDots, .ref p_this_firstPass, .ref p_this_lastPass, .ref p_this_dotsPrinted, .ref p_this_gutter, .int d28, .ref p_this_canColumns, .ref p_this_canCount], jai G p_this_picture 16 c_this_picture, jai G p_this_head 9 c_this_head, jai G p_this_living 8 c_this_living, jai G p_this_hitCount 16 u16.1, jai G p_this_hitPlace 192 u16.2, jai G p_this_printingHit 128 d29, jai G p_this_missedDots 16 d30, jai G p_this_firstPass 16 d31, jai G p_this_lastPass 16 d32, jai G p_this_dotsPrinted 96 d33, jai G p_this_gutter 8 (upd w39 i38.toNatClampNeg (0 : Int32)), jai G p_this_canColumns 12 d34, jai G p_this_canCount 8 d35]) hk dX1_print_100 11 rfl b42 rfl ?_
          refine jx_iincN (lvf := fun vq => [(1, .int vq), (0, .ref p_this)]) (c := 1) hk dX1_print_101 1 rfl (by decide) (by decide) (fun _ => rfl) (fun v43 e44 => ?_)
          replace h := h v43 e44
          refine jx_goto (tgt := 70) hk dX1_print_104 (by decide) ?_
          refine jx_lvs (lv' := [(0, .ref p_this), (1, .int v43)]) [1, 0] rfl ?_
          exact ih _ _ h
        · replace h := h.2 c41
          refine jx_aload_n hk dX1_print_91 rfl 0 rfl ?_
          refine jx_iload_n hk dX1_print_92 rfl 1 rfl ?_
          refine jx_callVi (wr := [jai G p_this_picture 16 c_this_picture, jai G p_this_hitCount 16 u16.1, jai G p_this_hitPlace 192 u16.2, jai G p_this_printingHit 128 d29, jai G p_this_missedDots 16 d30, jai G p_this_firstPass 16 d31, jai G p_this_lastPass 16 d32, jai G p_this_gutter 8 w39, jai G p_this_canColumns 12 d34, jai G p_this_canCount 8 d35]) (ws2 := fun u45 => [job p_this 1 [.ref p_this_picture, .ref p_this_head, .ref p_this_living, .ref p_this_hitCount, .ref p_this_hitPlace, .ref p_this_printingHit, .ref p_this_missedDots, .ref p_this_firstPass, .ref p_this_lastPass, .ref p_this_dotsPrinted, .ref p_this_gutter, .int d28, .ref p_this_canColumns, .ref p_this_canCount], jai G p_this_picture 16 c_this_picture, jai G p_this_head 9 c_this_head, jai G p_this_living 8 c_this_living, jai G p_this_hitCount 16 u16.1, jai G p_this_hitPlace 192 u16.2, jai G p_this_printingHit 128 d29, jai G p_this_missedDots 16 d30, jai G p_this_firstPass 16 d31, jai G p_this_lastPass 16 d32, jai G p_this_dotsPrinted 96 d33, jai G p_this_gutter 8 w39, jai G p_this_canColumns 12 d34, jai G p_this_canCount 8 d35]) hk (c_X1_gutterPasses l G p_this p_this_picture p_this_head p_this_living p_this_hitCount p_this_hitPlace p_this_printingHit p_this_missedDots p_this_firstPass p_this_lastPass p_this_dotsPrinted p_this_gutter p_this_canColumns p_this_canCount d28 c_this_head c_this_living d33 i38 _ h) 0 rfl rfl gX1_print_X1_gutterPasses ndV_X1_gutterPasses rfl rfl rfl ⟨Nat.le_of_ble_eq_true rfl, Nat.le_of_ble_eq_true rfl⟩ [0, 2, 3, 10] [1, 4, 5, 6, 7, 8, 9, 11, 12, 13] [10, 0, 11, 12, 1, 2, 3, 4, 5, 6, 13, 7, 8, 9] rfl rfl rfl rfl (by decide) rfl (fun _ => rfl) dX1_print_93 rfl (Nat.le_of_ble_eq_true rfl) ⟨Nat.zero_le _, Nat.zero_le _⟩ (fun r46 u45 h => ?_)
          refine jx_goto (tgt := 100) hk dX1_print_96 (by decide) ?_
          obtain ⟨b47, h⟩ := h
          refine jx_iastore (ws' := [job p_this 1 [.ref p_this_picture, .ref p_this_head, .ref p_this_living, .ref p_this_hitCount, .ref p_this_hitPlace, .ref p_this_printingHit, .ref p_this_missedDots, .ref p_this_firstPass, .ref p_this_lastPass, .ref p_this_dotsPrinted, .ref p_this_gutter, .int d28, .ref p_this_canColumns, .ref p_this_canCount], jai G p_this_picture 16 c_this_picture, jai G p_this_head 9 c_this_head, jai G p_this_living 8 c_this_living, jai G p_this_hitCount 16 u16.1, jai G p_this_hitPlace 192 u16.2, jai G p_this_printingHit 128 d29, jai G p_this_missedDots 16 d30, jai G p_this_firstPass 16 d31, jai G p_this_lastPass 16 d32, jai G p_this_dotsPrinted 96 d33, jai G p_this_gutter 8 (upd w39 i38.toNatClampNeg r46), jai G p_this_canColumns 12 d34, jai G p_this_canCount 8 d35]) hk dX1_print_100 11 rfl b47 rfl ?_
          refine jx_iincN (lvf := fun vq => [(1, .int vq), (0, .ref p_this)]) (c := 1) hk dX1_print_101 1 rfl (by decide) (by decide) (fun _ => rfl) (fun v48 e49 => ?_)
          replace h := h v48 e49
          refine jx_goto (tgt := 70) hk dX1_print_104 (by decide) ?_
          refine jx_lvs (lv' := [(0, .ref p_this), (1, .int v48)]) [1, 0] rfl ?_
          exact ih _ _ h
  refine jx_lvs (lv' := [(0, .ref p_this), (1, .int (0 : Int32))]) [1, 0] rfl ?_
  refine L70 _ ?_ n37 _ _ h
  intro d36 h
  exact hret (d28, u16.1, u16.2, d29, d30, d31, d32, d33, d36, d34, d35) _ _ dX1_print_107 h
set_option maxHeartbeats 4000000 in
set_option maxRecDepth 100000 in
theorem c_J6_bitCount_0f7a4 (l : Launch) (G : jG) (x0 : Int32) (post : Int32 → Unit → Prop) (h : wp_J6_bitCount_0f7a4 x0 post) : jmi l yJ6_bitCount_0f7a4 wsJ6_bitCount_0f7a4 { frames := 0, cells := 0, slots := 0, locals := 0 } G [.int x0] [] (fun u : Unit => []) post 0 0 := by
  refine jm_i (cc := cJ6_bitCount_0f7a4) (maxL := 1) (by decide) rfl (Nat.le_of_ble_eq_true rfl) ?_
  intro k A hk hin hret
  unfold wp_J6_bitCount_0f7a4 at h
  show jx k G A 1 0 0 [] 0 [(0, .int x0)] []
  refine jx_iload_n hk dJ6_bitCount_0f7a4_0 rfl 0 rfl ?_
  refine jx_iload_n hk dJ6_bitCount_0f7a4_1 rfl 0 rfl ?_
  refine jx_iconst (v := 1) hk dJ6_bitCount_0f7a4_2 (by decide) ?_
  refine jx_iushr hk dJ6_bitCount_0f7a4_3 ?_
  refine jx_topi (fun v1 e2 => ?_)
  replace h := h v1 e2
  refine jx_ldc_w (v := (1431655765)) hk dJ6_bitCount_0f7a4_4 (List.mem_of_getElem? (i := 1) rfl) ?_
  refine jx_iand hk dJ6_bitCount_0f7a4_7 ?_
  refine jx_isub hk dJ6_bitCount_0f7a4_8 ?_
  refine jx_topi (fun v3 e4 => ?_)
  replace h := h v3 e4
  refine jx_istore_n (lv' := [(0, .int v3)]) hk dJ6_bitCount_0f7a4_9 rfl (by decide) rfl ?_
  refine jx_iload_n hk dJ6_bitCount_0f7a4_10 rfl 0 rfl ?_
  refine jx_ldc_w (v := (858993459)) hk dJ6_bitCount_0f7a4_11 (List.mem_of_getElem? (i := 2) rfl) ?_
  refine jx_iand hk dJ6_bitCount_0f7a4_14 ?_
  refine jx_topi (fun v5 e6 => ?_)
  replace h := h v5 e6
  refine jx_iload_n hk dJ6_bitCount_0f7a4_15 rfl 0 rfl ?_
  refine jx_iconst (v := 2) hk dJ6_bitCount_0f7a4_16 (by decide) ?_
  refine jx_iushr hk dJ6_bitCount_0f7a4_17 ?_
  refine jx_topi (fun v7 e8 => ?_)
  replace h := h v7 e8
  refine jx_ldc_w (v := (858993459)) hk dJ6_bitCount_0f7a4_18 (List.mem_of_getElem? (i := 2) rfl) ?_
  refine jx_iand hk dJ6_bitCount_0f7a4_21 ?_
  refine jx_iadd hk dJ6_bitCount_0f7a4_22 ?_
  refine jx_topi (fun v9 e10 => ?_)
  replace h := h v9 e10
  refine jx_istore_n (lv' := [(0, .int v9)]) hk dJ6_bitCount_0f7a4_23 rfl (by decide) rfl ?_
  refine jx_iload_n hk dJ6_bitCount_0f7a4_24 rfl 0 rfl ?_
  refine jx_iload_n hk dJ6_bitCount_0f7a4_25 rfl 0 rfl ?_
  refine jx_iconst (v := 4) hk dJ6_bitCount_0f7a4_26 (by decide) ?_
  refine jx_iushr hk dJ6_bitCount_0f7a4_27 ?_
  refine jx_iadd hk dJ6_bitCount_0f7a4_28 ?_
  refine jx_topi (fun v11 e12 => ?_)
  replace h := h v11 e12
  refine jx_ldc_w (v := (252645135)) hk dJ6_bitCount_0f7a4_29 (List.mem_of_getElem? (i := 3) rfl) ?_
  refine jx_iand hk dJ6_bitCount_0f7a4_32 ?_
  refine jx_topi (fun v13 e14 => ?_)
  replace h := h v13 e14
  refine jx_istore_n (lv' := [(0, .int v13)]) hk dJ6_bitCount_0f7a4_33 rfl (by decide) rfl ?_
  refine jx_iload_n hk dJ6_bitCount_0f7a4_34 rfl 0 rfl ?_
  refine jx_iload_n hk dJ6_bitCount_0f7a4_35 rfl 0 rfl ?_
  refine jx_bipush (v := 8) hk dJ6_bitCount_0f7a4_36 (by decide) ?_
  refine jx_iushr hk dJ6_bitCount_0f7a4_38 ?_
  refine jx_iadd hk dJ6_bitCount_0f7a4_39 ?_
  refine jx_topi (fun v15 e16 => ?_)
  replace h := h v15 e16
  refine jx_istore_n (lv' := [(0, .int v15)]) hk dJ6_bitCount_0f7a4_40 rfl (by decide) rfl ?_
  refine jx_iload_n hk dJ6_bitCount_0f7a4_41 rfl 0 rfl ?_
  refine jx_iload_n hk dJ6_bitCount_0f7a4_42 rfl 0 rfl ?_
  refine jx_bipush (v := 16) hk dJ6_bitCount_0f7a4_43 (by decide) ?_
  refine jx_iushr hk dJ6_bitCount_0f7a4_45 ?_
  refine jx_iadd hk dJ6_bitCount_0f7a4_46 ?_
  refine jx_topi (fun v17 e18 => ?_)
  replace h := h v17 e18
  refine jx_istore_n (lv' := [(0, .int v17)]) hk dJ6_bitCount_0f7a4_47 rfl (by decide) rfl ?_
  refine jx_iload_n hk dJ6_bitCount_0f7a4_48 rfl 0 rfl ?_
  refine jx_bipush (v := 63) hk dJ6_bitCount_0f7a4_49 (by decide) ?_
  refine jx_iand hk dJ6_bitCount_0f7a4_51 ?_
  exact hret (v17 &&& (63 : Int32)) () _ _ dJ6_bitCount_0f7a4_52 h
set_option maxHeartbeats 4000000 in
set_option maxRecDepth 100000 in
theorem c_X1_fewestMissed (l : Launch) (G : jG) (p_this p_this_picture p_this_head p_this_living p_this_hitCount p_this_hitPlace p_this_printingHit p_this_missedDots p_this_firstPass p_this_lastPass p_this_dotsPrinted p_this_gutter p_this_canColumns p_this_canCount p_a2 : Nat) (f_this_strayed : Int32) (c_this_picture : Nat → Int32) (c_this_head : Nat → Int32) (c_this_hitCount : Nat → Int32) (c_this_hitPlace : Nat → Int32) (c_a2 : Nat → Int32) (x1 : Int32) (x3 : Int32) (post : Int32 → Unit → Prop) (h : wp_X1_fewestMissed x1 x3 c_this_picture c_this_head c_this_hitCount c_this_hitPlace c_a2 post) : jmi l yX1_fewestMissed wsX1_fewestMissed { frames := 1, cells := 0, slots := 0, locals := 22 } G [.ref p_this, .int x1, .ref p_a2, .int x3] [job p_this 1 [.ref p_this_picture, .ref p_this_head, .ref p_this_living, .ref p_this_hitCount, .ref p_this_hitPlace, .ref p_this_printingHit, .ref p_this_missedDots, .ref p_this_firstPass, .ref p_this_lastPass, .ref p_this_dotsPrinted, .ref p_this_gutter, .int f_this_strayed, .ref p_this_canColumns, .ref p_this_canCount], jai G p_this_picture 16 c_this_picture, jai G p_this_head 9 c_this_head, jai G p_this_hitCount 16 c_this_hitCount, jai G p_this_hitPlace 192 c_this_hitPlace, jai G p_a2 8 c_a2] (fun u : Unit => [job p_this 1 [.ref p_this_picture, .ref p_this_head, .ref p_this_living, .ref p_this_hitCount, .ref p_this_hitPlace, .ref p_this_printingHit, .ref p_this_missedDots, .ref p_this_firstPass, .ref p_this_lastPass, .ref p_this_dotsPrinted, .ref p_this_gutter, .int f_this_strayed, .ref p_this_canColumns, .ref p_this_canCount], jai G p_this_picture 16 c_this_picture, jai G p_this_head 9 c_this_head, jai G p_this_hitCount 16 c_this_hitCount, jai G p_this_hitPlace 192 c_this_hitPlace, jai G p_a2 8 c_a2]) post 0 0 := by
  refine jm_i (cc := cX1_fewestMissed) (maxL := 13) (by decide) rfl (Nat.le_of_ble_eq_true rfl) ?_
  intro k A hk hin hret
  unfold wp_X1_fewestMissed at h
  have hiX1 : ∀ w ∈ u_ws RX1 TX1 14, w ∈ wsX1_fewestMissed := (fun w h => List.mem_cons_of_mem _ (List.mem_append_right _ h))
  show jx k G A 13 0 0 [job p_this 1 [.ref p_this_picture, .ref p_this_head, .ref p_this_living, .ref p_this_hitCount, .ref p_this_hitPlace, .ref p_this_printingHit, .ref p_this_missedDots, .ref p_this_firstPass, .ref p_this_lastPass, .ref p_this_dotsPrinted, .ref p_this_gutter, .int f_this_strayed, .ref p_this_canColumns, .ref p_this_canCount], jai G p_this_picture 16 c_this_picture, jai G p_this_head 9 c_this_head, jai G p_this_hitCount 16 c_this_hitCount, jai G p_this_hitPlace 192 c_this_hitPlace, jai G p_a2 8 c_a2] 0 [(0, .ref p_this), (1, .int x1), (2, .ref p_a2), (3, .int x3)] []
  refine jx_aload_n hk dX1_fewestMissed_0 rfl 0 rfl ?_
  refine jx_get (C := RX1) (T := TX1) (N := 14) (ci := 1) (v := .ref p_this_picture) hk hiX1 0 rfl rfl 0 (by decide) (List.mem_of_getElem? (i := 1) rfl) rfl dX1_fewestMissed_1 ?_
  refine jx_iload_n hk dX1_fewestMissed_4 rfl 1 rfl ?_
  obtain ⟨b26, h⟩ := h
  refine jx_iaload hk dX1_fewestMissed_5 1 rfl b26 ?_
  refine jx_topi (fun v27 e28 => ?_)
  replace h := h v27 e28
  refine jx_istore (lv' := [(4, .int v27), (0, .ref p_this), (1, .int x1), (2, .ref p_a2), (3, .int x3)]) hk dX1_fewestMissed_6 (by decide) rfl ?_
  refine jx_iload hk dX1_fewestMissed_8 0 rfl ?_
  refine jx_if_ne (tgt := 15) hk dX1_fewestMissed_10 (by decide) (fun c29 => ?_) (fun c29 => ?_)
  · replace h := h.1 c29
    refine jx_iconst (v := 0) hk dX1_fewestMissed_15 (by decide) ?_
    refine jx_istore (lv' := [(5, .int (0 : Int32)), (4, .int v27), (0, .ref p_this), (1, .int x1), (2, .ref p_a2), (3, .int x3)]) hk dX1_fewestMissed_16 (by decide) rfl ?_
    refine jx_iconst (v := 0) hk dX1_fewestMissed_18 (by decide) ?_
    refine jx_istore (lv' := [(6, .int (0 : Int32)), (5, .int (0 : Int32)), (4, .int v27), (0, .ref p_this), (1, .int x1), (2, .ref p_a2), (3, .int x3)]) hk dX1_fewestMissed_19 (by decide) rfl ?_
    refine jx_iconst (v := 0) hk dX1_fewestMissed_21 (by decide) ?_
    refine jx_istore (lv' := [(7, .int (0 : Int32)), (6, .int (0 : Int32)), (5, .int (0 : Int32)), (4, .int v27), (0, .ref p_this), (1, .int x1), (2, .ref p_a2), (3, .int x3)]) hk dX1_fewestMissed_22 (by decide) rfl ?_
    obtain ⟨n68, h⟩ := h
    have L24 : ∀ (Ke_111 : Int32 → Int32 → Prop), (∀ (e30 : Int32) (e31 : Int32), Ke_111 e30 e31 → jx k G A 13 0 0 [job p_this 1 [.ref p_this_picture, .ref p_this_head, .ref p_this_living, .ref p_this_hitCount, .ref p_this_hitPlace, .ref p_this_printingHit, .ref p_this_missedDots, .ref p_this_firstPass, .ref p_this_lastPass, .ref p_this_dotsPrinted, .ref p_this_gutter, .int f_this_strayed, .ref p_this_canColumns, .ref p_this_canCount], jai G p_this_picture 16 c_this_picture, jai G p_this_head 9 c_this_head, jai G p_this_hitCount 16 c_this_hitCount, jai G p_this_hitPlace 192 c_this_hitPlace, jai G p_a2 8 c_a2] 111 [(0, .ref p_this), (4, .int v27), (5, .int e30), (6, .int e31)] []) → ∀ (n : Nat) (i69 : Int32) (i70 : Int32) (i71 : Int32), wq_X1_fewestMissed_24 c_this_picture c_this_head c_this_hitCount c_this_hitPlace c_a2 x1 x3 v27 post Ke_111 n i69 i70 i71 → jx k G A 13 0 0 [job p_this 1 [.ref p_this_picture, .ref p_this_head, .ref p_this_living, .ref p_this_hitCount, .ref p_this_hitPlace, .ref p_this_printingHit, .ref p_this_missedDots, .ref p_this_firstPass, .ref p_this_lastPass, .ref p_this_dotsPrinted, .ref p_this_gutter, .int f_this_strayed, .ref p_this_canColumns, .ref p_this_canCount], jai G p_this_picture 16 c_this_picture, jai G p_this_head 9 c_this_head, jai G p_this_hitCount 16 c_this_hitCount, jai G p_this_hitPlace 192 c_this_hitPlace, jai G p_a2 8 c_a2] 24 [(0, .ref p_this), (1, .int x1), (2, .ref p_a2), (3, .int x3), (4, .int v27), (5, .int i69), (6, .int i70), (7, .int i71)] [] := by
      intro Ke_111 hE_111 n
      induction n with
      | zero =>
        intro _ _ _ h
        exact h.elim
      | succ n ih =>
        intro i69 i70 i71 h
        unfold wq_X1_fewestMissed_24 at h
        have J83 : ∀ (y72 : Int32) (y73 : Int32) (y74 : Int32) (y75 : Int32) (z76 : Int32) (z77 : Int32), wq_X1_fewestMissed_83 c_this_picture c_this_head c_this_hitCount c_this_hitPlace c_a2 x1 x3 v27 post (wq_X1_fewestMissed_24 c_this_picture c_this_head c_this_hitCount c_this_hitPlace c_a2 x1 x3 v27 post Ke_111 n) Ke_111 y72 y73 y74 y75 z76 z77 → jx k G A 13 0 0 [job p_this 1 [.ref p_this_picture, .ref p_this_head, .ref p_this_living, .ref p_this_hitCount, .ref p_this_hitPlace, .ref p_this_printingHit, .ref p_this_missedDots, .ref p_this_firstPass, .ref p_this_lastPass, .ref p_this_dotsPrinted, .ref p_this_gutter, .int f_this_strayed, .ref p_this_canColumns, .ref p_this_canCount], jai G p_this_picture 16 c_this_picture, jai G p_this_head 9 c_this_head, jai G p_this_hitCount 16 c_this_hitCount, jai G p_this_hitPlace 192 c_this_hitPlace, jai G p_a2 8 c_a2] 83 [(0, .ref p_this), (1, .int x1), (2, .ref p_a2), (3, .int x3), (4, .int v27), (6, .int y72), (7, .int y73), (8, .int y74), (9, .int y75)] [.int z77, .int z76] := by
          intro y72 y73 y74 y75 z76 z77 h
          unfold wq_X1_fewestMissed_83 at h
          refine jx_iadd hk dX1_fewestMissed_83 ?_
          refine jx_topi (fun v78 e79 => ?_)
          replace h := h v78 e79
          refine jx_istore (lv' := [(5, .int v78), (0, .ref p_this), (1, .int x1), (2, .ref p_a2), (3, .int x3), (4, .int v27), (6, .int y72), (7, .int y73), (8, .int y74), (9, .int y75)]) hk dX1_fewestMissed_84 (by decide) rfl ?_
          refine jx_iload hk dX1_fewestMissed_86 6 rfl ?_
          refine jx_iload hk dX1_fewestMissed_88 8 rfl ?_
          refine jx_callSi (wr := [job p_this 1 [.ref p_this_picture, .ref p_this_head, .ref p_this_living, .ref p_this_hitCount, .ref p_this_hitPlace, .ref p_this_printingHit, .ref p_this_missedDots, .ref p_this_firstPass, .ref p_this_lastPass, .ref p_this_dotsPrinted, .ref p_this_gutter, .int f_this_strayed, .ref p_this_canColumns, .ref p_this_canCount], jai G p_this_picture 16 c_this_picture, jai G p_this_head 9 c_this_head, jai G p_this_hitCount 16 c_this_hitCount, jai G p_this_hitPlace 192 c_this_hitPlace, jai G p_a2 8 c_a2]) (ws2 := fun u80 => [job p_this 1 [.ref p_this_picture, .ref p_this_head, .ref p_this_living, .ref p_this_hitCount, .ref p_this_hitPlace, .ref p_this_printingHit, .ref p_this_missedDots, .ref p_this_firstPass, .ref p_this_lastPass, .ref p_this_dotsPrinted, .ref p_this_gutter, .int f_this_strayed, .ref p_this_canColumns, .ref p_this_canCount], jai G p_this_picture 16 c_this_picture, jai G p_this_head 9 c_this_head, jai G p_this_hitCount 16 c_this_hitCount, jai G p_this_hitPlace 192 c_this_hitPlace, jai G p_a2 8 c_a2]) hk (c_X1_goesRight l G y74 _ h) gX1_fewestMissed_X1_goesRight nd0_X1_goesRight rfl rfl rfl ⟨Nat.le_of_ble_eq_true rfl, Nat.le_of_ble_eq_true rfl⟩ [] [0, 1, 2, 3, 4, 5] [0, 1, 2, 3, 4, 5] rfl rfl rfl rfl (by decide) rfl (fun _ => rfl) dX1_fewestMissed_90 rfl (Nat.le_of_ble_eq_true rfl) ⟨Nat.zero_le _, Nat.zero_le _⟩ (fun r81 u80 h => ?_)
          refine jx_if_eq (tgt := 100) hk dX1_fewestMissed_93 (by decide) (fun c82 => ?_) (fun c82 => ?_)
          · replace h := h.1 c82
            refine jx_iload hk dX1_fewestMissed_100 9 rfl ?_
            refine jx_iadd hk dX1_fewestMissed_102 ?_
            refine jx_topi (fun v83 e84 => ?_)
            replace h := h v83 e84
            refine jx_istore (lv' := [(6, .int v83), (5, .int v78), (0, .ref p_this), (1, .int x1), (2, .ref p_a2), (3, .int x3), (4, .int v27), (7, .int y73), (8, .int y74), (9, .int y75)]) hk dX1_fewestMissed_103 (by decide) rfl ?_
            refine jx_iincN (lvf := fun vq => [(7, .int vq), (6, .int v83), (5, .int v78), (0, .ref p_this), (1, .int x1), (2, .ref p_a2), (3, .int x3), (4, .int v27), (8, .int y74), (9, .int y75)]) (c := 1) hk dX1_fewestMissed_105 7 rfl (by decide) (by decide) (fun _ => rfl) (fun v85 e86 => ?_)
            replace h := h v85 e86
            refine jx_goto (tgt := 24) hk dX1_fewestMissed_108 (by decide) ?_
            refine jx_lvs (lv' := [(0, .ref p_this), (1, .int x1), (2, .ref p_a2), (3, .int x3), (4, .int v27), (5, .int v78), (6, .int v83), (7, .int v85)]) [3, 4, 5, 6, 7, 2, 1, 0] rfl ?_
            exact ih _ _ _ h
          · replace h := h.2 c82
            refine jx_iconst (v := 0) hk dX1_fewestMissed_96 (by decide) ?_
            refine jx_goto (tgt := 102) hk dX1_fewestMissed_97 (by decide) ?_
            refine jx_iadd hk dX1_fewestMissed_102 ?_
            refine jx_topi (fun v87 e88 => ?_)
            replace h := h v87 e88
            refine jx_istore (lv' := [(6, .int v87), (5, .int v78), (0, .ref p_this), (1, .int x1), (2, .ref p_a2), (3, .int x3), (4, .int v27), (7, .int y73), (8, .int y74), (9, .int y75)]) hk dX1_fewestMissed_103 (by decide) rfl ?_
            refine jx_iincN (lvf := fun vq => [(7, .int vq), (6, .int v87), (5, .int v78), (0, .ref p_this), (1, .int x1), (2, .ref p_a2), (3, .int x3), (4, .int v27), (8, .int y74), (9, .int y75)]) (c := 1) hk dX1_fewestMissed_105 7 rfl (by decide) (by decide) (fun _ => rfl) (fun v89 e90 => ?_)
            replace h := h v89 e90
            refine jx_goto (tgt := 24) hk dX1_fewestMissed_108 (by decide) ?_
            refine jx_lvs (lv' := [(0, .ref p_this), (1, .int x1), (2, .ref p_a2), (3, .int x3), (4, .int v27), (5, .int v78), (6, .int v87), (7, .int v89)]) [3, 4, 5, 6, 7, 2, 1, 0] rfl ?_
            exact ih _ _ _ h
        have J65 : ∀ (y91 : Int32) (y92 : Int32) (y93 : Int32) (y94 : Int32) (z95 : Int32), wq_X1_fewestMissed_65 c_this_picture c_this_head c_this_hitCount c_this_hitPlace c_a2 x1 x3 v27 post (wq_X1_fewestMissed_24 c_this_picture c_this_head c_this_hitCount c_this_hitPlace c_a2 x1 x3 v27 post Ke_111 n) Ke_111 y91 y92 y93 y94 z95 → jx k G A 13 0 0 [job p_this 1 [.ref p_this_picture, .ref p_this_head, .ref p_this_living, .ref p_this_hitCount, .ref p_this_hitPlace, .ref p_this_printingHit, .ref p_this_missedDots, .ref p_this_firstPass, .ref p_this_lastPass, .ref p_this_dotsPrinted, .ref p_this_gutter, .int f_this_strayed, .ref p_this_canColumns, .ref p_this_canCount], jai G p_this_picture 16 c_this_picture, jai G p_this_head 9 c_this_head, jai G p_this_hitCount 16 c_this_hitCount, jai G p_this_hitPlace 192 c_this_hitPlace, jai G p_a2 8 c_a2] 65 [(0, .ref p_this), (1, .int x1), (2, .ref p_a2), (3, .int x3), (4, .int v27), (5, .int y91), (6, .int y92), (7, .int y93), (8, .int y94)] [.int z95] := by
          intro y91 y92 y93 y94 z95 h
          unfold wq_X1_fewestMissed_65 at h
          refine jx_istore (lv' := [(9, .int z95), (0, .ref p_this), (1, .int x1), (2, .ref p_a2), (3, .int x3), (4, .int v27), (5, .int y91), (6, .int y92), (7, .int y93), (8, .int y94)]) hk dX1_fewestMissed_65 (by decide) rfl ?_
          refine jx_iload hk dX1_fewestMissed_67 6 rfl ?_
          refine jx_iload hk dX1_fewestMissed_69 9 rfl ?_
          refine jx_callSi (wr := [job p_this 1 [.ref p_this_picture, .ref p_this_head, .ref p_this_living, .ref p_this_hitCount, .ref p_this_hitPlace, .ref p_this_printingHit, .ref p_this_missedDots, .ref p_this_firstPass, .ref p_this_lastPass, .ref p_this_dotsPrinted, .ref p_this_gutter, .int f_this_strayed, .ref p_this_canColumns, .ref p_this_canCount], jai G p_this_picture 16 c_this_picture, jai G p_this_head 9 c_this_head, jai G p_this_hitCount 16 c_this_hitCount, jai G p_this_hitPlace 192 c_this_hitPlace, jai G p_a2 8 c_a2]) (ws2 := fun u96 => [job p_this 1 [.ref p_this_picture, .ref p_this_head, .ref p_this_living, .ref p_this_hitCount, .ref p_this_hitPlace, .ref p_this_printingHit, .ref p_this_missedDots, .ref p_this_firstPass, .ref p_this_lastPass, .ref p_this_dotsPrinted, .ref p_this_gutter, .int f_this_strayed, .ref p_this_canColumns, .ref p_this_canCount], jai G p_this_picture 16 c_this_picture, jai G p_this_head 9 c_this_head, jai G p_this_hitCount 16 c_this_hitCount, jai G p_this_hitPlace 192 c_this_hitPlace, jai G p_a2 8 c_a2]) hk (c_X1_goesRight l G y94 _ h) gX1_fewestMissed_X1_goesRight nd0_X1_goesRight rfl rfl rfl ⟨Nat.le_of_ble_eq_true rfl, Nat.le_of_ble_eq_true rfl⟩ [] [0, 1, 2, 3, 4, 5] [0, 1, 2, 3, 4, 5] rfl rfl rfl rfl (by decide) rfl (fun _ => rfl) dX1_fewestMissed_71 rfl (Nat.le_of_ble_eq_true rfl) ⟨Nat.zero_le _, Nat.zero_le _⟩ (fun r97 u96 h => ?_)
          refine jx_if_eq (tgt := 82) hk dX1_fewestMissed_74 (by decide) (fun c98 => ?_) (fun c98 => ?_)
          · replace h := h.1 c98
            refine jx_iconst (v := 0) hk dX1_fewestMissed_82 (by decide) ?_
            refine jx_lvs (lv' := [(0, .ref p_this), (1, .int x1), (2, .ref p_a2), (3, .int x3), (4, .int v27), (6, .int y92), (7, .int y93), (8, .int y94), (9, .int z95)]) [1, 2, 3, 4, 5, 7, 8, 9, 0] rfl ?_
            exact J83 _ _ _ _ _ _ h
          · replace h := h.2 c98
            refine jx_iload hk dX1_fewestMissed_77 0 rfl ?_
            refine jx_goto (tgt := 83) hk dX1_fewestMissed_79 (by decide) ?_
            refine jx_lvs (lv' := [(0, .ref p_this), (1, .int x1), (2, .ref p_a2), (3, .int x3), (4, .int v27), (6, .int y92), (7, .int y93), (8, .int y94), (9, .int z95)]) [1, 2, 3, 4, 5, 7, 8, 9, 0] rfl ?_
            exact J83 _ _ _ _ _ _ h
        refine jx_iload hk dX1_fewestMissed_24 7 rfl ?_
        refine jx_aload_n hk dX1_fewestMissed_26 rfl 0 rfl ?_
        refine jx_get (C := RX1) (T := TX1) (N := 14) (ci := 1) (v := .ref p_this_hitCount) hk hiX1 0 rfl rfl 3 (by decide) (List.mem_of_getElem? (i := 2) rfl) rfl dX1_fewestMissed_27 ?_
        refine jx_iload_n hk dX1_fewestMissed_30 rfl 1 rfl ?_
        obtain ⟨b99, h⟩ := h
        refine jx_iaload hk dX1_fewestMissed_31 3 rfl b99 ?_
        refine jx_icmp_ge (tgt := 111) hk dX1_fewestMissed_32 (by decide) (fun c100 => ?_) (fun c100 => ?_)
        · replace h := h.1 c100
          refine jx_lvs (lv' := [(0, .ref p_this), (4, .int v27), (5, .int i69), (6, .int i70)]) [0, 4, 5, 6] rfl ?_
          exact hE_111 _ _ h
        · replace h := h.2 c100
          refine jx_aload_n hk dX1_fewestMissed_35 rfl 0 rfl ?_
          refine jx_iload_n hk dX1_fewestMissed_36 rfl 1 rfl ?_
          refine jx_iload hk dX1_fewestMissed_37 7 rfl ?_
          refine jx_callVi (wr := [jai G p_this_picture 16 c_this_picture, jai G p_this_head 9 c_this_head, jai G p_this_hitCount 16 c_this_hitCount, jai G p_a2 8 c_a2]) (ws2 := fun u101 => [job p_this 1 [.ref p_this_picture, .ref p_this_head, .ref p_this_living, .ref p_this_hitCount, .ref p_this_hitPlace, .ref p_this_printingHit, .ref p_this_missedDots, .ref p_this_firstPass, .ref p_this_lastPass, .ref p_this_dotsPrinted, .ref p_this_gutter, .int f_this_strayed, .ref p_this_canColumns, .ref p_this_canCount], jai G p_this_picture 16 c_this_picture, jai G p_this_head 9 c_this_head, jai G p_this_hitCount 16 c_this_hitCount, jai G p_this_hitPlace 192 c_this_hitPlace, jai G p_a2 8 c_a2]) hk (c_X1_passOf l G p_this p_this_picture p_this_head p_this_living p_this_hitCount p_this_hitPlace p_this_printingHit p_this_missedDots p_this_firstPass p_this_lastPass p_this_dotsPrinted p_this_gutter p_this_canColumns p_this_canCount f_this_strayed c_this_hitPlace x1 i71 _ h) 0 rfl rfl gX1_fewestMissed_X1_passOf ndV_X1_passOf rfl rfl rfl ⟨Nat.le_of_ble_eq_true rfl, Nat.le_of_ble_eq_true rfl⟩ [0, 4] [1, 2, 3, 5] [4, 0, 1, 2, 5, 3] rfl rfl rfl rfl (by decide) rfl (fun _ => rfl) dX1_fewestMissed_39 rfl (Nat.le_of_ble_eq_true rfl) ⟨Nat.zero_le _, Nat.zero_le _⟩ (fun r102 u101 h => ?_)
          refine jx_istore (lv' := [(8, .int r102), (0, .ref p_this), (1, .int x1), (2, .ref p_a2), (3, .int x3), (4, .int v27), (5, .int i69), (6, .int i70), (7, .int i71)]) hk dX1_fewestMissed_42 (by decide) rfl ?_
          refine jx_aload_n hk dX1_fewestMissed_44 rfl 3 rfl ?_
          refine jx_aload_n hk dX1_fewestMissed_45 rfl 1 rfl ?_
          refine jx_iload_n hk dX1_fewestMissed_46 rfl 2 rfl ?_
          refine jx_iload hk dX1_fewestMissed_47 8 rfl ?_
          refine jx_callVi (wr := [jai G p_this_picture 16 c_this_picture, jai G p_this_head 9 c_this_head, jai G p_this_hitCount 16 c_this_hitCount, jai G p_a2 8 c_a2]) (ws2 := fun u103 => [job p_this 1 [.ref p_this_picture, .ref p_this_head, .ref p_this_living, .ref p_this_hitCount, .ref p_this_hitPlace, .ref p_this_printingHit, .ref p_this_missedDots, .ref p_this_firstPass, .ref p_this_lastPass, .ref p_this_dotsPrinted, .ref p_this_gutter, .int f_this_strayed, .ref p_this_canColumns, .ref p_this_canCount], jai G p_this_picture 16 c_this_picture, jai G p_this_head 9 c_this_head, jai G p_this_hitCount 16 c_this_hitCount, jai G p_this_hitPlace 192 c_this_hitPlace, jai G p_a2 8 c_a2]) hk (c_X1_nozzleOf l G p_this p_this_picture p_this_head p_this_living p_this_hitCount p_this_hitPlace p_this_printingHit p_this_missedDots p_this_firstPass p_this_lastPass p_this_dotsPrinted p_this_gutter p_this_canColumns p_this_canCount f_this_strayed c_this_hitPlace x1 i71 _ h) 0 rfl rfl gX1_fewestMissed_X1_nozzleOf ndV_X1_nozzleOf rfl rfl rfl ⟨Nat.le_of_ble_eq_true rfl, Nat.le_of_ble_eq_true rfl⟩ [0, 4] [1, 2, 3, 5] [4, 0, 1, 2, 5, 3] rfl rfl rfl rfl (by decide) rfl (fun _ => rfl) dX1_fewestMissed_49 rfl (Nat.le_of_ble_eq_true rfl) ⟨Nat.zero_le _, Nat.zero_le _⟩ (fun r104 u103 h => ?_)
          refine jx_iload hk dX1_fewestMissed_52 0 rfl ?_
          refine jx_callSi (wr := [job p_this 1 [.ref p_this_picture, .ref p_this_head, .ref p_this_living, .ref p_this_hitCount, .ref p_this_hitPlace, .ref p_this_printingHit, .ref p_this_missedDots, .ref p_this_firstPass, .ref p_this_lastPass, .ref p_this_dotsPrinted, .ref p_this_gutter, .int f_this_strayed, .ref p_this_canColumns, .ref p_this_canCount], jai G p_this_picture 16 c_this_picture, jai G p_this_head 9 c_this_head, jai G p_this_hitCount 16 c_this_hitCount, jai G p_this_hitPlace 192 c_this_hitPlace]) (ws2 := fun u105 => [job p_this 1 [.ref p_this_picture, .ref p_this_head, .ref p_this_living, .ref p_this_hitCount, .ref p_this_hitPlace, .ref p_this_printingHit, .ref p_this_missedDots, .ref p_this_firstPass, .ref p_this_lastPass, .ref p_this_dotsPrinted, .ref p_this_gutter, .int f_this_strayed, .ref p_this_canColumns, .ref p_this_canCount], jai G p_this_picture 16 c_this_picture, jai G p_this_head 9 c_this_head, jai G p_this_hitCount 16 c_this_hitCount, jai G p_this_hitPlace 192 c_this_hitPlace, jai G p_a2 8 c_a2]) hk (c_X1_isLiving l G p_a2 c_a2 r104 r102 _ h) gX1_fewestMissed_X1_isLiving nd0_X1_isLiving rfl rfl rfl ⟨Nat.le_of_ble_eq_true rfl, Nat.le_of_ble_eq_true rfl⟩ [5] [0, 1, 2, 3, 4] [0, 1, 2, 3, 4, 5] rfl rfl rfl rfl (by decide) rfl (fun _ => rfl) dX1_fewestMissed_54 rfl (Nat.le_of_ble_eq_true rfl) ⟨Nat.zero_le _, Nat.zero_le _⟩ (fun r106 u105 h => ?_)
          refine jx_if_eq (tgt := 64) hk dX1_fewestMissed_57 (by decide) (fun c107 => ?_) (fun c107 => ?_)
          · replace h := h.1 c107
            refine jx_iconst (v := 0) hk dX1_fewestMissed_64 (by decide) ?_
            refine jx_lvs (lv' := [(0, .ref p_this), (1, .int x1), (2, .ref p_a2), (3, .int x3), (4, .int v27), (5, .int i69), (6, .int i70), (7, .int i71), (8, .int r102)]) [1, 2, 3, 4, 5, 6, 7, 8, 0] rfl ?_
            exact J65 _ _ _ _ _ h
          · replace h := h.2 c107
            refine jx_iload_n hk dX1_fewestMissed_60 rfl 4 rfl ?_
            refine jx_goto (tgt := 65) hk dX1_fewestMissed_61 (by decide) ?_
            refine jx_lvs (lv' := [(0, .ref p_this), (1, .int x1), (2, .ref p_a2), (3, .int x3), (4, .int v27), (5, .int i69), (6, .int i70), (7, .int i71), (8, .int r102)]) [1, 2, 3, 4, 5, 6, 7, 8, 0] rfl ?_
            exact J65 _ _ _ _ _ h
    refine jx_lvs (lv' := [(0, .ref p_this), (1, .int x1), (2, .ref p_a2), (3, .int x3), (4, .int v27), (5, .int (0 : Int32)), (6, .int (0 : Int32)), (7, .int (0 : Int32))]) [4, 5, 6, 7, 3, 2, 1, 0] rfl ?_
    refine L24 _ ?_ n68 _ _ _ h
    intro e30 e31 h
    refine jx_iload hk dX1_fewestMissed_111 1 rfl ?_
    refine jx_iconst (v := 1) hk dX1_fewestMissed_113 (by decide) ?_
    refine jx_aload_n hk dX1_fewestMissed_114 rfl 0 rfl ?_
    refine jx_get (C := RX1) (T := TX1) (N := 14) (ci := 1) (v := .ref p_this_head) hk hiX1 0 rfl rfl 1 (by decide) (List.mem_of_getElem? (i := 3) rfl) rfl dX1_fewestMissed_115 ?_
    refine jx_bipush (v := 7) hk dX1_fewestMissed_118 (by decide) ?_
    refine jx_ialoadC (j := 7) hk dX1_fewestMissed_120 2 rfl (by decide) ?_
    refine jx_ishl hk dX1_fewestMissed_121 ?_
    refine jx_topi (fun v32 e33 => ?_)
    replace h := h v32 e33
    refine jx_iconst (v := 1) hk dX1_fewestMissed_122 (by decide) ?_
    refine jx_isub hk dX1_fewestMissed_123 ?_
    refine jx_iand hk dX1_fewestMissed_124 ?_
    refine jx_topi (fun v34 e35 => ?_)
    replace h := h v34 e35
    refine jx_callSi (wr := [job p_this 1 [.ref p_this_picture, .ref p_this_head, .ref p_this_living, .ref p_this_hitCount, .ref p_this_hitPlace, .ref p_this_printingHit, .ref p_this_missedDots, .ref p_this_firstPass, .ref p_this_lastPass, .ref p_this_dotsPrinted, .ref p_this_gutter, .int f_this_strayed, .ref p_this_canColumns, .ref p_this_canCount], jai G p_this_picture 16 c_this_picture, jai G p_this_head 9 c_this_head, jai G p_this_hitCount 16 c_this_hitCount, jai G p_this_hitPlace 192 c_this_hitPlace, jai G p_a2 8 c_a2]) (ws2 := fun u36 => [job p_this 1 [.ref p_this_picture, .ref p_this_head, .ref p_this_living, .ref p_this_hitCount, .ref p_this_hitPlace, .ref p_this_printingHit, .ref p_this_missedDots, .ref p_this_firstPass, .ref p_this_lastPass, .ref p_this_dotsPrinted, .ref p_this_gutter, .int f_this_strayed, .ref p_this_canColumns, .ref p_this_canCount], jai G p_this_picture 16 c_this_picture, jai G p_this_head 9 c_this_head, jai G p_this_hitCount 16 c_this_hitCount, jai G p_this_hitPlace 192 c_this_hitPlace, jai G p_a2 8 c_a2]) hk (c_J6_bitCount_0f7a4 l G v34 _ h) gX1_fewestMissed_J6_bitCount_0f7a4 nd0_J6_bitCount_0f7a4 rfl rfl rfl ⟨Nat.le_of_ble_eq_true rfl, Nat.le_of_ble_eq_true rfl⟩ [] [0, 1, 2, 3, 4, 5] [0, 1, 2, 3, 4, 5] rfl rfl rfl rfl (by decide) rfl (fun _ => rfl) dX1_fewestMissed_125 rfl (Nat.le_of_ble_eq_true rfl) ⟨Nat.zero_le _, Nat.zero_le _⟩ (fun r37 u36 h => ?_)
    refine jx_istore (lv' := [(7, .int r37), (0, .ref p_this), (4, .int v27), (5, .int e30), (6, .int e31)]) hk dX1_fewestMissed_128 (by decide) rfl ?_
    refine jx_iload hk dX1_fewestMissed_130 2 rfl ?_
    refine jx_bipush (v := 8) hk dX1_fewestMissed_132 (by decide) ?_
    refine jx_aload_n hk dX1_fewestMissed_134 rfl 1 rfl ?_
    refine jx_get (C := RX1) (T := TX1) (N := 14) (ci := 1) (v := .ref p_this_head) hk hiX1 0 rfl rfl 1 (by decide) (List.mem_of_getElem? (i := 3) rfl) rfl dX1_fewestMissed_135 ?_
    refine jx_bipush (v := 7) hk dX1_fewestMissed_138 (by decide) ?_
    refine jx_ialoadC (j := 7) hk dX1_fewestMissed_140 2 rfl (by decide) ?_
    refine jx_isub hk dX1_fewestMissed_141 ?_
    refine jx_ishr hk dX1_fewestMissed_142 ?_
    refine jx_topi (fun v38 e39 => ?_)
    replace h := h v38 e39
    refine jx_callSi (wr := [job p_this 1 [.ref p_this_picture, .ref p_this_head, .ref p_this_living, .ref p_this_hitCount, .ref p_this_hitPlace, .ref p_this_printingHit, .ref p_this_missedDots, .ref p_this_firstPass, .ref p_this_lastPass, .ref p_this_dotsPrinted, .ref p_this_gutter, .int f_this_strayed, .ref p_this_canColumns, .ref p_this_canCount], jai G p_this_picture 16 c_this_picture, jai G p_this_head 9 c_this_head, jai G p_this_hitCount 16 c_this_hitCount, jai G p_this_hitPlace 192 c_this_hitPlace, jai G p_a2 8 c_a2]) (ws2 := fun u40 => [job p_this 1 [.ref p_this_picture, .ref p_this_head, .ref p_this_living, .ref p_this_hitCount, .ref p_this_hitPlace, .ref p_this_printingHit, .ref p_this_missedDots, .ref p_this_firstPass, .ref p_this_lastPass, .ref p_this_dotsPrinted, .ref p_this_gutter, .int f_this_strayed, .ref p_this_canColumns, .ref p_this_canCount], jai G p_this_picture 16 c_this_picture, jai G p_this_head 9 c_this_head, jai G p_this_hitCount 16 c_this_hitCount, jai G p_this_hitPlace 192 c_this_hitPlace, jai G p_a2 8 c_a2]) hk (c_J6_bitCount_0f7a4 l G v38 _ h) gX1_fewestMissed_J6_bitCount_0f7a4 nd0_J6_bitCount_0f7a4 rfl rfl rfl ⟨Nat.le_of_ble_eq_true rfl, Nat.le_of_ble_eq_true rfl⟩ [] [0, 1, 2, 3, 4, 5] [0, 1, 2, 3, 4, 5] rfl rfl rfl rfl (by decide) rfl (fun _ => rfl) dX1_fewestMissed_143 rfl (Nat.le_of_ble_eq_true rfl) ⟨Nat.zero_le _, Nat.zero_le _⟩ (fun r41 u40 h => ?_)
    refine jx_istore (lv' := [(8, .int r41), (7, .int r37), (0, .ref p_this), (4, .int v27), (5, .int e30), (6, .int e31)]) hk dX1_fewestMissed_146 (by decide) rfl ?_
    refine jx_iload hk dX1_fewestMissed_148 3 rfl ?_
    refine jx_callSi (wr := [job p_this 1 [.ref p_this_picture, .ref p_this_head, .ref p_this_living, .ref p_this_hitCount, .ref p_this_hitPlace, .ref p_this_printingHit, .ref p_this_missedDots, .ref p_this_firstPass, .ref p_this_lastPass, .ref p_this_dotsPrinted, .ref p_this_gutter, .int f_this_strayed, .ref p_this_canColumns, .ref p_this_canCount], jai G p_this_picture 16 c_this_picture, jai G p_this_head 9 c_this_head, jai G p_this_hitCount 16 c_this_hitCount, jai G p_this_hitPlace 192 c_this_hitPlace, jai G p_a2 8 c_a2]) (ws2 := fun u42 => [job p_this 1 [.ref p_this_picture, .ref p_this_head, .ref p_this_living, .ref p_this_hitCount, .ref p_this_hitPlace, .ref p_this_printingHit, .ref p_this_missedDots, .ref p_this_firstPass, .ref p_this_lastPass, .ref p_this_dotsPrinted, .ref p_this_gutter, .int f_this_strayed, .ref p_this_canColumns, .ref p_this_canCount], jai G p_this_picture 16 c_this_picture, jai G p_this_head 9 c_this_head, jai G p_this_hitCount 16 c_this_hitCount, jai G p_this_hitPlace 192 c_this_hitPlace, jai G p_a2 8 c_a2]) hk (c_J6_bitCount_0f7a4 l G v27 _ h) gX1_fewestMissed_J6_bitCount_0f7a4 nd0_J6_bitCount_0f7a4 rfl rfl rfl ⟨Nat.le_of_ble_eq_true rfl, Nat.le_of_ble_eq_true rfl⟩ [] [0, 1, 2, 3, 4, 5] [0, 1, 2, 3, 4, 5] rfl rfl rfl rfl (by decide) rfl (fun _ => rfl) dX1_fewestMissed_150 rfl (Nat.le_of_ble_eq_true rfl) ⟨Nat.zero_le _, Nat.zero_le _⟩ (fun r43 u42 h => ?_)
    refine jx_iload hk dX1_fewestMissed_153 1 rfl ?_
    refine jx_isub hk dX1_fewestMissed_155 ?_
    refine jx_topi (fun v44 e45 => ?_)
    replace h := h v44 e45
    refine jx_iload hk dX1_fewestMissed_156 0 rfl ?_
    refine jx_isub hk dX1_fewestMissed_158 ?_
    refine jx_topi (fun v46 e47 => ?_)
    replace h := h v46 e47
    refine jx_istore (lv' := [(9, .int v46), (8, .int r41), (7, .int r37), (0, .ref p_this), (4, .int v27), (5, .int e30), (6, .int e31)]) hk dX1_fewestMissed_159 (by decide) rfl ?_
    refine jx_iconst (v := 0) hk dX1_fewestMissed_161 (by decide) ?_
    refine jx_iload hk dX1_fewestMissed_162 2 rfl ?_
    refine jx_iload hk dX1_fewestMissed_164 5 rfl ?_
    refine jx_isub hk dX1_fewestMissed_166 ?_
    refine jx_topi (fun v48 e49 => ?_)
    replace h := h v48 e49
    refine jx_mmax hk dX1_fewestMissed_167 (List.mem_of_getElem? (i := 4) rfl) (List.mem_of_getElem? (i := 5) rfl) (List.mem_of_getElem? (i := 6) rfl) (List.mem_of_getElem? (i := 7) rfl) (Nat.le_of_ble_eq_true rfl) (Nat.le_of_ble_eq_true rfl) (Nat.zero_le _) (Nat.zero_le _) ?_
    refine jx_topi (fun v50 e51 => ?_)
    replace h := h v50 e51
    refine jx_istore (lv' := [(10, .int v50), (9, .int v46), (8, .int r41), (7, .int r37), (0, .ref p_this), (4, .int v27), (5, .int e30), (6, .int e31)]) hk dX1_fewestMissed_170 (by decide) rfl ?_
    refine jx_iconst (v := 0) hk dX1_fewestMissed_172 (by decide) ?_
    refine jx_iload hk dX1_fewestMissed_173 2 rfl ?_
    refine jx_iload hk dX1_fewestMissed_175 7 rfl ?_
    refine jx_isub hk dX1_fewestMissed_177 ?_
    refine jx_topi (fun v52 e53 => ?_)
    replace h := h v52 e53
    refine jx_mmax hk dX1_fewestMissed_178 (List.mem_of_getElem? (i := 4) rfl) (List.mem_of_getElem? (i := 5) rfl) (List.mem_of_getElem? (i := 6) rfl) (List.mem_of_getElem? (i := 7) rfl) (Nat.le_of_ble_eq_true rfl) (Nat.le_of_ble_eq_true rfl) (Nat.zero_le _) (Nat.zero_le _) ?_
    refine jx_topi (fun v54 e55 => ?_)
    replace h := h v54 e55
    refine jx_istore (lv' := [(11, .int v54), (10, .int v50), (9, .int v46), (8, .int r41), (7, .int r37), (0, .ref p_this), (4, .int v27), (5, .int e30), (6, .int e31)]) hk dX1_fewestMissed_181 (by decide) rfl ?_
    refine jx_iconst (v := 0) hk dX1_fewestMissed_183 (by decide) ?_
    refine jx_iload hk dX1_fewestMissed_184 7 rfl ?_
    refine jx_iload hk dX1_fewestMissed_186 4 rfl ?_
    refine jx_isub hk dX1_fewestMissed_188 ?_
    refine jx_topi (fun v56 e57 => ?_)
    replace h := h v56 e57
    refine jx_mmax hk dX1_fewestMissed_189 (List.mem_of_getElem? (i := 4) rfl) (List.mem_of_getElem? (i := 5) rfl) (List.mem_of_getElem? (i := 6) rfl) (List.mem_of_getElem? (i := 7) rfl) (Nat.le_of_ble_eq_true rfl) (Nat.le_of_ble_eq_true rfl) (Nat.zero_le _) (Nat.zero_le _) ?_
    refine jx_topi (fun v58 e59 => ?_)
    replace h := h v58 e59
    refine jx_iconst (v := 0) hk dX1_fewestMissed_192 (by decide) ?_
    refine jx_iload hk dX1_fewestMissed_193 8 rfl ?_
    refine jx_iload hk dX1_fewestMissed_195 3 rfl ?_
    refine jx_isub hk dX1_fewestMissed_197 ?_
    refine jx_topi (fun v60 e61 => ?_)
    replace h := h v60 e61
    refine jx_mmax hk dX1_fewestMissed_198 (List.mem_of_getElem? (i := 4) rfl) (List.mem_of_getElem? (i := 5) rfl) (List.mem_of_getElem? (i := 6) rfl) (List.mem_of_getElem? (i := 7) rfl) (Nat.le_of_ble_eq_true rfl) (Nat.le_of_ble_eq_true rfl) (Nat.zero_le _) (Nat.zero_le _) ?_
    refine jx_iadd hk dX1_fewestMissed_201 ?_
    refine jx_topi (fun v62 e63 => ?_)
    replace h := h v62 e63
    refine jx_istore (lv' := [(12, .int v62), (11, .int v54), (10, .int v50), (9, .int v46), (8, .int r41), (7, .int r37), (0, .ref p_this), (4, .int v27), (5, .int e30), (6, .int e31)]) hk dX1_fewestMissed_202 (by decide) rfl ?_
    refine jx_iload hk dX1_fewestMissed_204 2 rfl ?_
    refine jx_iload hk dX1_fewestMissed_206 1 rfl ?_
    refine jx_iadd hk dX1_fewestMissed_208 ?_
    refine jx_topi (fun v64 e65 => ?_)
    replace h := h v64 e65
    refine jx_iconst (v := 0) hk dX1_fewestMissed_209 (by decide) ?_
    refine jx_iload hk dX1_fewestMissed_210 3 rfl ?_
    refine jx_iload hk dX1_fewestMissed_212 0 rfl ?_
    refine jx_isub hk dX1_fewestMissed_214 ?_
    refine jx_topi (fun v66 e67 => ?_)
    replace h := h v66 e67
    refine jx_mmax hk dX1_fewestMissed_215 (List.mem_of_getElem? (i := 4) rfl) (List.mem_of_getElem? (i := 5) rfl) (List.mem_of_getElem? (i := 6) rfl) (List.mem_of_getElem? (i := 7) rfl) (Nat.le_of_ble_eq_true rfl) (Nat.le_of_ble_eq_true rfl) (Nat.zero_le _) (Nat.zero_le _) ?_
    refine jx_iadd hk dX1_fewestMissed_218 ?_
    exact hret (v64 + ((if (0 : Int32) < v66 then v66 else (0 : Int32)))) () _ _ dX1_fewestMissed_219 h
  · replace h := h.2 c29
    refine jx_iconst (v := 0) hk dX1_fewestMissed_13 (by decide) ?_
    exact hret (0 : Int32) () _ _ dX1_fewestMissed_14 h
set_option maxHeartbeats 4000000 in
set_option maxRecDepth 100000 in
theorem c_X1_openLines (l : Launch) (G : jG) (p_this p_this_picture p_this_head p_this_living p_this_hitCount p_this_hitPlace p_this_printingHit p_this_missedDots p_this_firstPass p_this_lastPass p_this_dotsPrinted p_this_gutter p_this_canColumns p_this_canCount : Nat) (f_this_strayed : Int32) (c_this_firstPass : Nat → Int32) (c_this_lastPass : Nat → Int32) (x1 : Int32) (post : Int32 → Unit → Prop) (h : wp_X1_openLines x1 c_this_firstPass c_this_lastPass post) : jmi l yX1_openLines wsX1_openLines { frames := 0, cells := 0, slots := 0, locals := 0 } G [.ref p_this, .int x1] [job p_this 1 [.ref p_this_picture, .ref p_this_head, .ref p_this_living, .ref p_this_hitCount, .ref p_this_hitPlace, .ref p_this_printingHit, .ref p_this_missedDots, .ref p_this_firstPass, .ref p_this_lastPass, .ref p_this_dotsPrinted, .ref p_this_gutter, .int f_this_strayed, .ref p_this_canColumns, .ref p_this_canCount], jai G p_this_firstPass 16 c_this_firstPass, jai G p_this_lastPass 16 c_this_lastPass] (fun u : Unit => [job p_this 1 [.ref p_this_picture, .ref p_this_head, .ref p_this_living, .ref p_this_hitCount, .ref p_this_hitPlace, .ref p_this_printingHit, .ref p_this_missedDots, .ref p_this_firstPass, .ref p_this_lastPass, .ref p_this_dotsPrinted, .ref p_this_gutter, .int f_this_strayed, .ref p_this_canColumns, .ref p_this_canCount], jai G p_this_firstPass 16 c_this_firstPass, jai G p_this_lastPass 16 c_this_lastPass]) post 0 0 := by
  refine jm_i (cc := cX1_openLines) (maxL := 5) (by decide) rfl (Nat.le_of_ble_eq_true rfl) ?_
  intro k A hk hin hret
  unfold wp_X1_openLines at h
  have hiX1 : ∀ w ∈ u_ws RX1 TX1 14, w ∈ wsX1_openLines := (fun w h => List.mem_cons_of_mem _ (List.mem_append_right _ h))
  show jx k G A 5 0 0 [job p_this 1 [.ref p_this_picture, .ref p_this_head, .ref p_this_living, .ref p_this_hitCount, .ref p_this_hitPlace, .ref p_this_printingHit, .ref p_this_missedDots, .ref p_this_firstPass, .ref p_this_lastPass, .ref p_this_dotsPrinted, .ref p_this_gutter, .int f_this_strayed, .ref p_this_canColumns, .ref p_this_canCount], jai G p_this_firstPass 16 c_this_firstPass, jai G p_this_lastPass 16 c_this_lastPass] 0 [(0, .ref p_this), (1, .int x1)] []
  refine jx_iconst (v := 0) hk dX1_openLines_0 (by decide) ?_
  refine jx_istore_n (lv' := [(2, .int (0 : Int32)), (0, .ref p_this), (1, .int x1)]) hk dX1_openLines_1 rfl (by decide) rfl ?_
  refine jx_iconst (v := 0) hk dX1_openLines_2 (by decide) ?_
  refine jx_istore_n (lv' := [(3, .int (0 : Int32)), (2, .int (0 : Int32)), (0, .ref p_this), (1, .int x1)]) hk dX1_openLines_3 rfl (by decide) rfl ?_
  obtain ⟨n28, h⟩ := h
  have L4 : ∀ (Ke_66 : Int32 → Prop), (∀ (e27 : Int32), Ke_66 e27 → jx k G A 5 0 0 [job p_this 1 [.ref p_this_picture, .ref p_this_head, .ref p_this_living, .ref p_this_hitCount, .ref p_this_hitPlace, .ref p_this_printingHit, .ref p_this_missedDots, .ref p_this_firstPass, .ref p_this_lastPass, .ref p_this_dotsPrinted, .ref p_this_gutter, .int f_this_strayed, .ref p_this_canColumns, .ref p_this_canCount], jai G p_this_firstPass 16 c_this_firstPass, jai G p_this_lastPass 16 c_this_lastPass] 66 [(2, .int e27)] []) → ∀ (n : Nat) (i29 : Int32) (i30 : Int32), wq_X1_openLines_4 c_this_firstPass c_this_lastPass x1 post Ke_66 n i29 i30 → jx k G A 5 0 0 [job p_this 1 [.ref p_this_picture, .ref p_this_head, .ref p_this_living, .ref p_this_hitCount, .ref p_this_hitPlace, .ref p_this_printingHit, .ref p_this_missedDots, .ref p_this_firstPass, .ref p_this_lastPass, .ref p_this_dotsPrinted, .ref p_this_gutter, .int f_this_strayed, .ref p_this_canColumns, .ref p_this_canCount], jai G p_this_firstPass 16 c_this_firstPass, jai G p_this_lastPass 16 c_this_lastPass] 4 [(0, .ref p_this), (1, .int x1), (2, .int i29), (3, .int i30)] [] := by
    intro Ke_66 hE_66 n
    induction n with
    | zero =>
      intro _ _ h
      exact h.elim
    | succ n ih =>
      intro i29 i30 h
      unfold wq_X1_openLines_4 at h
      have J35 : ∀ (y31 : Int32) (y32 : Int32) (z33 : Int32), wq_X1_openLines_35 c_this_firstPass c_this_lastPass x1 post (wq_X1_openLines_4 c_this_firstPass c_this_lastPass x1 post Ke_66 n) Ke_66 y31 y32 z33 → jx k G A 5 0 0 [job p_this 1 [.ref p_this_picture, .ref p_this_head, .ref p_this_living, .ref p_this_hitCount, .ref p_this_hitPlace, .ref p_this_printingHit, .ref p_this_missedDots, .ref p_this_firstPass, .ref p_this_lastPass, .ref p_this_dotsPrinted, .ref p_this_gutter, .int f_this_strayed, .ref p_this_canColumns, .ref p_this_canCount], jai G p_this_firstPass 16 c_this_firstPass, jai G p_this_lastPass 16 c_this_lastPass] 35 [(0, .ref p_this), (1, .int x1), (2, .int y31), (3, .int y32)] [.int z33] := by
        intro y31 y32 z33 h
        unfold wq_X1_openLines_35 at h
        refine jx_istore (lv' := [(4, .int z33), (0, .ref p_this), (1, .int x1), (2, .int y31), (3, .int y32)]) hk dX1_openLines_35 (by decide) rfl ?_
        refine jx_iload_n hk dX1_openLines_37 rfl 3 rfl ?_
        refine jx_iload hk dX1_openLines_38 0 rfl ?_
        refine jx_if_eq (tgt := 57) hk dX1_openLines_40 (by decide) (fun c34 => ?_) (fun c34 => ?_)
        · replace h := h.1 c34
          refine jx_iconst (v := 0) hk dX1_openLines_57 (by decide) ?_
          refine jx_iadd hk dX1_openLines_58 ?_
          refine jx_topi (fun v35 e36 => ?_)
          replace h := h v35 e36
          refine jx_istore_n (lv' := [(2, .int v35), (4, .int z33), (0, .ref p_this), (1, .int x1), (3, .int y32)]) hk dX1_openLines_59 rfl (by decide) rfl ?_
          refine jx_iincN (lvf := fun vq => [(3, .int vq), (2, .int v35), (4, .int z33), (0, .ref p_this), (1, .int x1)]) (c := 1) hk dX1_openLines_60 4 rfl (by decide) (by decide) (fun _ => rfl) (fun v37 e38 => ?_)
          replace h := h v37 e38
          refine jx_goto (tgt := 4) hk dX1_openLines_63 (by decide) ?_
          refine jx_lvs (lv' := [(0, .ref p_this), (1, .int x1), (2, .int v35), (3, .int v37)]) [3, 4, 1, 0] rfl ?_
          exact ih _ _ h
        · replace h := h.2 c34
          refine jx_aload_n hk dX1_openLines_43 rfl 1 rfl ?_
          refine jx_get (C := RX1) (T := TX1) (N := 14) (ci := 1) (v := .ref p_this_lastPass) hk hiX1 0 rfl rfl 8 (by decide) (List.mem_of_getElem? (i := 2) rfl) rfl dX1_openLines_44 ?_
          refine jx_iload_n hk dX1_openLines_47 rfl 4 rfl ?_
          obtain ⟨b39, h⟩ := h
          refine jx_iaload hk dX1_openLines_48 2 rfl b39 ?_
          refine jx_topi (fun v40 e41 => ?_)
          replace h := h v40 e41
          refine jx_iload_n hk dX1_openLines_49 rfl 2 rfl ?_
          refine jx_icmp_lt (tgt := 57) hk dX1_openLines_50 (by decide) (fun c42 => ?_) (fun c42 => ?_)
          · replace h := h.1 c42
            refine jx_iconst (v := 0) hk dX1_openLines_57 (by decide) ?_
            refine jx_iadd hk dX1_openLines_58 ?_
            refine jx_topi (fun v43 e44 => ?_)
            replace h := h v43 e44
            refine jx_istore_n (lv' := [(2, .int v43), (4, .int z33), (0, .ref p_this), (1, .int x1), (3, .int y32)]) hk dX1_openLines_59 rfl (by decide) rfl ?_
            refine jx_iincN (lvf := fun vq => [(3, .int vq), (2, .int v43), (4, .int z33), (0, .ref p_this), (1, .int x1)]) (c := 1) hk dX1_openLines_60 4 rfl (by decide) (by decide) (fun _ => rfl) (fun v45 e46 => ?_)
            replace h := h v45 e46
            refine jx_goto (tgt := 4) hk dX1_openLines_63 (by decide) ?_
            refine jx_lvs (lv' := [(0, .ref p_this), (1, .int x1), (2, .int v43), (3, .int v45)]) [3, 4, 1, 0] rfl ?_
            exact ih _ _ h
          · replace h := h.2 c42
            refine jx_iconst (v := 1) hk dX1_openLines_53 (by decide) ?_
            refine jx_goto (tgt := 58) hk dX1_openLines_54 (by decide) ?_
            refine jx_iadd hk dX1_openLines_58 ?_
            refine jx_topi (fun v47 e48 => ?_)
            replace h := h v47 e48
            refine jx_istore_n (lv' := [(2, .int v47), (4, .int z33), (0, .ref p_this), (1, .int x1), (3, .int y32)]) hk dX1_openLines_59 rfl (by decide) rfl ?_
            refine jx_iincN (lvf := fun vq => [(3, .int vq), (2, .int v47), (4, .int z33), (0, .ref p_this), (1, .int x1)]) (c := 1) hk dX1_openLines_60 4 rfl (by decide) (by decide) (fun _ => rfl) (fun v49 e50 => ?_)
            replace h := h v49 e50
            refine jx_goto (tgt := 4) hk dX1_openLines_63 (by decide) ?_
            refine jx_lvs (lv' := [(0, .ref p_this), (1, .int x1), (2, .int v47), (3, .int v49)]) [3, 4, 1, 0] rfl ?_
            exact ih _ _ h
      refine jx_iload_n hk dX1_openLines_4 rfl 3 rfl ?_
      refine jx_bipush (v := 16) hk dX1_openLines_5 (by decide) ?_
      refine jx_icmp_ge (tgt := 66) hk dX1_openLines_7 (by decide) (fun c51 => ?_) (fun c51 => ?_)
      · replace h := h.1 c51
        refine jx_lvs (lv' := [(2, .int i29)]) [2] rfl ?_
        exact hE_66 _ h
      · replace h := h.2 c51
        refine jx_aload_n hk dX1_openLines_10 rfl 0 rfl ?_
        refine jx_get (C := RX1) (T := TX1) (N := 14) (ci := 1) (v := .ref p_this_firstPass) hk hiX1 0 rfl rfl 7 (by decide) (List.mem_of_getElem? (i := 1) rfl) rfl dX1_openLines_11 ?_
        refine jx_iload_n hk dX1_openLines_14 rfl 3 rfl ?_
        obtain ⟨b52, h⟩ := h
        refine jx_iaload hk dX1_openLines_15 1 rfl b52 ?_
        refine jx_topi (fun v53 e54 => ?_)
        replace h := h v53 e54
        refine jx_iconst (v := (-1)) hk dX1_openLines_16 (by decide) ?_
        refine jx_icmp_eq (tgt := 34) hk dX1_openLines_17 (by decide) (fun c55 => ?_) (fun c55 => ?_)
        · replace h := h.1 c55
          refine jx_iconst (v := 0) hk dX1_openLines_34 (by decide) ?_
          exact J35 _ _ _ h
        · replace h := h.2 c55
          refine jx_aload_n hk dX1_openLines_20 rfl 0 rfl ?_
          refine jx_get (C := RX1) (T := TX1) (N := 14) (ci := 1) (v := .ref p_this_firstPass) hk hiX1 0 rfl rfl 7 (by decide) (List.mem_of_getElem? (i := 1) rfl) rfl dX1_openLines_21 ?_
          refine jx_iload_n hk dX1_openLines_24 rfl 3 rfl ?_
          obtain ⟨b56, h⟩ := h
          refine jx_iaload hk dX1_openLines_25 1 rfl b56 ?_
          refine jx_topi (fun v57 e58 => ?_)
          replace h := h v57 e58
          refine jx_iload_n hk dX1_openLines_26 rfl 1 rfl ?_
          refine jx_icmp_gt (tgt := 34) hk dX1_openLines_27 (by decide) (fun c59 => ?_) (fun c59 => ?_)
          · replace h := h.1 c59
            refine jx_iconst (v := 0) hk dX1_openLines_34 (by decide) ?_
            exact J35 _ _ _ h
          · replace h := h.2 c59
            refine jx_iconst (v := 1) hk dX1_openLines_30 (by decide) ?_
            refine jx_goto (tgt := 35) hk dX1_openLines_31 (by decide) ?_
            exact J35 _ _ _ h
  refine jx_lvs (lv' := [(0, .ref p_this), (1, .int x1), (2, .int (0 : Int32)), (3, .int (0 : Int32))]) [2, 3, 1, 0] rfl ?_
  refine L4 _ ?_ n28 _ _ h
  intro e27 h
  refine jx_iload_n hk dX1_openLines_66 rfl 0 rfl ?_
  exact hret e27 () _ _ dX1_openLines_67 h
set_option maxHeartbeats 4000000 in
set_option maxRecDepth 100000 in
theorem c_X1_dropsOf (l : Launch) (G : jG) (p_this p_this_picture p_this_head p_this_living p_this_hitCount p_this_hitPlace p_this_printingHit p_this_missedDots p_this_firstPass p_this_lastPass p_this_dotsPrinted p_this_gutter p_this_canColumns p_this_canCount : Nat) (f_this_strayed : Int32) (c_this_head : Nat → Int32) (c_this_dotsPrinted : Nat → Int32) (c_this_gutter : Nat → Int32) (x1 : Int32) (post : Int32 → Unit → Prop) (h : wp_X1_dropsOf x1 c_this_head c_this_dotsPrinted c_this_gutter post) : jmi l yX1_dropsOf wsX1_dropsOf { frames := 1, cells := 0, slots := 0, locals := 20 } G [.ref p_this, .int x1] [job p_this 1 [.ref p_this_picture, .ref p_this_head, .ref p_this_living, .ref p_this_hitCount, .ref p_this_hitPlace, .ref p_this_printingHit, .ref p_this_missedDots, .ref p_this_firstPass, .ref p_this_lastPass, .ref p_this_dotsPrinted, .ref p_this_gutter, .int f_this_strayed, .ref p_this_canColumns, .ref p_this_canCount], jai G p_this_head 9 c_this_head, jai G p_this_dotsPrinted 96 c_this_dotsPrinted, jai G p_this_gutter 8 c_this_gutter] (fun u : Unit => [job p_this 1 [.ref p_this_picture, .ref p_this_head, .ref p_this_living, .ref p_this_hitCount, .ref p_this_hitPlace, .ref p_this_printingHit, .ref p_this_missedDots, .ref p_this_firstPass, .ref p_this_lastPass, .ref p_this_dotsPrinted, .ref p_this_gutter, .int f_this_strayed, .ref p_this_canColumns, .ref p_this_canCount], jai G p_this_head 9 c_this_head, jai G p_this_dotsPrinted 96 c_this_dotsPrinted, jai G p_this_gutter 8 c_this_gutter]) post 0 0 := by
  refine jm_i (cc := cX1_dropsOf) (maxL := 4) (by decide) rfl (Nat.le_of_ble_eq_true rfl) ?_
  intro k A hk hin hret
  unfold wp_X1_dropsOf at h
  have hiX1 : ∀ w ∈ u_ws RX1 TX1 14, w ∈ wsX1_dropsOf := (fun w h => List.mem_cons_of_mem _ (List.mem_append_right _ h))
  show jx k G A 4 0 0 [job p_this 1 [.ref p_this_picture, .ref p_this_head, .ref p_this_living, .ref p_this_hitCount, .ref p_this_hitPlace, .ref p_this_printingHit, .ref p_this_missedDots, .ref p_this_firstPass, .ref p_this_lastPass, .ref p_this_dotsPrinted, .ref p_this_gutter, .int f_this_strayed, .ref p_this_canColumns, .ref p_this_canCount], jai G p_this_head 9 c_this_head, jai G p_this_dotsPrinted 96 c_this_dotsPrinted, jai G p_this_gutter 8 c_this_gutter] 0 [(0, .ref p_this), (1, .int x1)] []
  refine jx_aload_n hk dX1_dropsOf_0 rfl 0 rfl ?_
  refine jx_get (C := RX1) (T := TX1) (N := 14) (ci := 1) (v := .ref p_this_gutter) hk hiX1 0 rfl rfl 10 (by decide) (List.mem_of_getElem? (i := 1) rfl) rfl dX1_dropsOf_1 ?_
  refine jx_iload_n hk dX1_dropsOf_4 rfl 1 rfl ?_
  obtain ⟨b11, h⟩ := h
  refine jx_iaload hk dX1_dropsOf_5 3 rfl b11 ?_
  refine jx_topi (fun v12 e13 => ?_)
  replace h := h v12 e13
  refine jx_callSi (wr := [job p_this 1 [.ref p_this_picture, .ref p_this_head, .ref p_this_living, .ref p_this_hitCount, .ref p_this_hitPlace, .ref p_this_printingHit, .ref p_this_missedDots, .ref p_this_firstPass, .ref p_this_lastPass, .ref p_this_dotsPrinted, .ref p_this_gutter, .int f_this_strayed, .ref p_this_canColumns, .ref p_this_canCount], jai G p_this_head 9 c_this_head, jai G p_this_dotsPrinted 96 c_this_dotsPrinted, jai G p_this_gutter 8 c_this_gutter]) (ws2 := fun u14 => [job p_this 1 [.ref p_this_picture, .ref p_this_head, .ref p_this_living, .ref p_this_hitCount, .ref p_this_hitPlace, .ref p_this_printingHit, .ref p_this_missedDots, .ref p_this_firstPass, .ref p_this_lastPass, .ref p_this_dotsPrinted, .ref p_this_gutter, .int f_this_strayed, .ref p_this_canColumns, .ref p_this_canCount], jai G p_this_head 9 c_this_head, jai G p_this_dotsPrinted 96 c_this_dotsPrinted, jai G p_this_gutter 8 c_this_gutter]) hk (c_J6_bitCount_0f7a4 l G v12 _ h) gX1_dropsOf_J6_bitCount_0f7a4 nd0_J6_bitCount_0f7a4 rfl rfl rfl ⟨Nat.le_of_ble_eq_true rfl, Nat.le_of_ble_eq_true rfl⟩ [] [0, 1, 2, 3] [0, 1, 2, 3] rfl rfl rfl rfl (by decide) rfl (fun _ => rfl) dX1_dropsOf_6 rfl (Nat.le_of_ble_eq_true rfl) ⟨Nat.zero_le _, Nat.zero_le _⟩ (fun r15 u14 h => ?_)
  refine jx_istore_n (lv' := [(2, .int r15), (0, .ref p_this), (1, .int x1)]) hk dX1_dropsOf_9 rfl (by decide) rfl ?_
  refine jx_iconst (v := 0) hk dX1_dropsOf_10 (by decide) ?_
  refine jx_istore_n (lv' := [(3, .int (0 : Int32)), (2, .int r15), (0, .ref p_this), (1, .int x1)]) hk dX1_dropsOf_11 rfl (by decide) rfl ?_
  obtain ⟨n17, h⟩ := h
  have L12 : ∀ (Ke_42 : Int32 → Prop), (∀ (e16 : Int32), Ke_42 e16 → jx k G A 4 0 0 [job p_this 1 [.ref p_this_picture, .ref p_this_head, .ref p_this_living, .ref p_this_hitCount, .ref p_this_hitPlace, .ref p_this_printingHit, .ref p_this_missedDots, .ref p_this_firstPass, .ref p_this_lastPass, .ref p_this_dotsPrinted, .ref p_this_gutter, .int f_this_strayed, .ref p_this_canColumns, .ref p_this_canCount], jai G p_this_head 9 c_this_head, jai G p_this_dotsPrinted 96 c_this_dotsPrinted, jai G p_this_gutter 8 c_this_gutter] 42 [(2, .int e16)] []) → ∀ (n : Nat) (i18 : Int32) (i19 : Int32), wq_X1_dropsOf_12 c_this_head c_this_dotsPrinted c_this_gutter x1 post Ke_42 n i18 i19 → jx k G A 4 0 0 [job p_this 1 [.ref p_this_picture, .ref p_this_head, .ref p_this_living, .ref p_this_hitCount, .ref p_this_hitPlace, .ref p_this_printingHit, .ref p_this_missedDots, .ref p_this_firstPass, .ref p_this_lastPass, .ref p_this_dotsPrinted, .ref p_this_gutter, .int f_this_strayed, .ref p_this_canColumns, .ref p_this_canCount], jai G p_this_head 9 c_this_head, jai G p_this_dotsPrinted 96 c_this_dotsPrinted, jai G p_this_gutter 8 c_this_gutter] 12 [(0, .ref p_this), (1, .int x1), (2, .int i18), (3, .int i19)] [] := by
    intro Ke_42 hE_42 n
    induction n with
    | zero =>
      intro _ _ h
      exact h.elim
    | succ n ih =>
      intro i18 i19 h
      unfold wq_X1_dropsOf_12 at h
      refine jx_iload_n hk dX1_dropsOf_12 rfl 3 rfl ?_
      refine jx_aload_n hk dX1_dropsOf_13 rfl 0 rfl ?_
      refine jx_get (C := RX1) (T := TX1) (N := 14) (ci := 1) (v := .ref p_this_head) hk hiX1 0 rfl rfl 1 (by decide) (List.mem_of_getElem? (i := 2) rfl) rfl dX1_dropsOf_14 ?_
      refine jx_iconst (v := 3) hk dX1_dropsOf_17 (by decide) ?_
      refine jx_ialoadC (j := 3) hk dX1_dropsOf_18 1 rfl (by decide) ?_
      refine jx_icmp_ge (tgt := 42) hk dX1_dropsOf_19 (by decide) (fun c20 => ?_) (fun c20 => ?_)
      · replace h := h.1 c20
        refine jx_lvs (lv' := [(2, .int i18)]) [2] rfl ?_
        exact hE_42 _ h
      · replace h := h.2 c20
        refine jx_iload_n hk dX1_dropsOf_22 rfl 2 rfl ?_
        refine jx_aload_n hk dX1_dropsOf_23 rfl 0 rfl ?_
        refine jx_get (C := RX1) (T := TX1) (N := 14) (ci := 1) (v := .ref p_this_dotsPrinted) hk hiX1 0 rfl rfl 9 (by decide) (List.mem_of_getElem? (i := 3) rfl) rfl dX1_dropsOf_24 ?_
        refine jx_iload_n hk dX1_dropsOf_27 rfl 3 rfl ?_
        refine jx_bipush (v := 8) hk dX1_dropsOf_28 (by decide) ?_
        refine jx_imul hk dX1_dropsOf_30 ?_
        refine jx_topi (fun v21 e22 => ?_)
        replace h := h v21 e22
        refine jx_iload_n hk dX1_dropsOf_31 rfl 1 rfl ?_
        refine jx_iadd hk dX1_dropsOf_32 ?_
        refine jx_topi (fun v23 e24 => ?_)
        replace h := h v23 e24
        obtain ⟨b25, h⟩ := h
        refine jx_iaload hk dX1_dropsOf_33 2 rfl b25 ?_
        refine jx_iadd hk dX1_dropsOf_34 ?_
        refine jx_topi (fun v26 e27 => ?_)
        replace h := h v26 e27
        refine jx_istore_n (lv' := [(2, .int v26), (0, .ref p_this), (1, .int x1), (3, .int i19)]) hk dX1_dropsOf_35 rfl (by decide) rfl ?_
        refine jx_iincN (lvf := fun vq => [(3, .int vq), (2, .int v26), (0, .ref p_this), (1, .int x1)]) (c := 1) hk dX1_dropsOf_36 3 rfl (by decide) (by decide) (fun _ => rfl) (fun v28 e29 => ?_)
        replace h := h v28 e29
        refine jx_goto (tgt := 12) hk dX1_dropsOf_39 (by decide) ?_
        refine jx_lvs (lv' := [(0, .ref p_this), (1, .int x1), (2, .int v26), (3, .int v28)]) [2, 3, 1, 0] rfl ?_
        exact ih _ _ h
  refine jx_lvs (lv' := [(0, .ref p_this), (1, .int x1), (2, .int r15), (3, .int (0 : Int32))]) [2, 3, 1, 0] rfl ?_
  refine L12 _ ?_ n17 _ _ h
  intro e16 h
  refine jx_iload_n hk dX1_dropsOf_42 rfl 0 rfl ?_
  exact hret e16 () _ _ dX1_dropsOf_43 h
set_option maxHeartbeats 4000000 in
set_option maxRecDepth 100000 in
theorem c_X1_allHits (l : Launch) (G : jG) (p_this p_this_picture p_this_head p_this_living p_this_hitCount p_this_hitPlace p_this_printingHit p_this_missedDots p_this_firstPass p_this_lastPass p_this_dotsPrinted p_this_gutter p_this_canColumns p_this_canCount : Nat) (f_this_strayed : Int32) (c_this_hitCount : Nat → Int32) (post : Int32 → Unit → Prop) (h : wp_X1_allHits c_this_hitCount post) : jmi l yX1_allHits wsX1_allHits { frames := 0, cells := 0, slots := 0, locals := 0 } G [.ref p_this] [job p_this 1 [.ref p_this_picture, .ref p_this_head, .ref p_this_living, .ref p_this_hitCount, .ref p_this_hitPlace, .ref p_this_printingHit, .ref p_this_missedDots, .ref p_this_firstPass, .ref p_this_lastPass, .ref p_this_dotsPrinted, .ref p_this_gutter, .int f_this_strayed, .ref p_this_canColumns, .ref p_this_canCount], jai G p_this_hitCount 16 c_this_hitCount] (fun u : Unit => [job p_this 1 [.ref p_this_picture, .ref p_this_head, .ref p_this_living, .ref p_this_hitCount, .ref p_this_hitPlace, .ref p_this_printingHit, .ref p_this_missedDots, .ref p_this_firstPass, .ref p_this_lastPass, .ref p_this_dotsPrinted, .ref p_this_gutter, .int f_this_strayed, .ref p_this_canColumns, .ref p_this_canCount], jai G p_this_hitCount 16 c_this_hitCount]) post 0 0 := by
  refine jm_i (cc := cX1_allHits) (maxL := 6) (by decide) rfl (Nat.le_of_ble_eq_true rfl) ?_
  intro k A hk hin hret
  unfold wp_X1_allHits at h
  have hiX1 : ∀ w ∈ u_ws RX1 TX1 14, w ∈ wsX1_allHits := (fun w h => List.mem_cons_of_mem _ (List.mem_append_right _ h))
  show jx k G A 6 0 0 [job p_this 1 [.ref p_this_picture, .ref p_this_head, .ref p_this_living, .ref p_this_hitCount, .ref p_this_hitPlace, .ref p_this_printingHit, .ref p_this_missedDots, .ref p_this_firstPass, .ref p_this_lastPass, .ref p_this_dotsPrinted, .ref p_this_gutter, .int f_this_strayed, .ref p_this_canColumns, .ref p_this_canCount], jai G p_this_hitCount 16 c_this_hitCount] 0 [(0, .ref p_this)] []
  refine jx_iconst (v := 0) hk dX1_allHits_0 (by decide) ?_
  refine jx_istore_n (lv' := [(1, .int (0 : Int32)), (0, .ref p_this)]) hk dX1_allHits_1 rfl (by decide) rfl ?_
  refine jx_aload_n hk dX1_allHits_2 rfl 1 rfl ?_
  refine jx_get (C := RX1) (T := TX1) (N := 14) (ci := 1) (v := .ref p_this_hitCount) hk hiX1 0 rfl rfl 3 (by decide) (List.mem_of_getElem? (i := 1) rfl) rfl dX1_allHits_3 ?_
  refine jx_astore_n (lv' := [(2, .ref p_this_hitCount), (1, .int (0 : Int32)), (0, .ref p_this)]) hk dX1_allHits_6 rfl (by decide) rfl ?_
  refine jx_aload_n hk dX1_allHits_7 rfl 0 rfl ?_
  refine jx_ilen (v := 16) hk dX1_allHits_8 1 rfl (by decide) ?_
  refine jx_istore_n (lv' := [(3, .int (16 : Int32)), (2, .ref p_this_hitCount), (1, .int (0 : Int32)), (0, .ref p_this)]) hk dX1_allHits_9 rfl (by decide) rfl ?_
  refine jx_iconst (v := 0) hk dX1_allHits_10 (by decide) ?_
  refine jx_istore (lv' := [(4, .int (0 : Int32)), (3, .int (16 : Int32)), (2, .ref p_this_hitCount), (1, .int (0 : Int32)), (0, .ref p_this)]) hk dX1_allHits_11 (by decide) rfl ?_
  obtain ⟨n10, h⟩ := h
  have L13 : ∀ (Ke_36 : Int32 → Prop), (∀ (e9 : Int32), Ke_36 e9 → jx k G A 6 0 0 [job p_this 1 [.ref p_this_picture, .ref p_this_head, .ref p_this_living, .ref p_this_hitCount, .ref p_this_hitPlace, .ref p_this_printingHit, .ref p_this_missedDots, .ref p_this_firstPass, .ref p_this_lastPass, .ref p_this_dotsPrinted, .ref p_this_gutter, .int f_this_strayed, .ref p_this_canColumns, .ref p_this_canCount], jai G p_this_hitCount 16 c_this_hitCount] 36 [(1, .int e9)] []) → ∀ (n : Nat) (i11 : Int32) (i12 : Int32), wq_X1_allHits_13 c_this_hitCount (16 : Int32) post Ke_36 n i11 i12 → jx k G A 6 0 0 [job p_this 1 [.ref p_this_picture, .ref p_this_head, .ref p_this_living, .ref p_this_hitCount, .ref p_this_hitPlace, .ref p_this_printingHit, .ref p_this_missedDots, .ref p_this_firstPass, .ref p_this_lastPass, .ref p_this_dotsPrinted, .ref p_this_gutter, .int f_this_strayed, .ref p_this_canColumns, .ref p_this_canCount], jai G p_this_hitCount 16 c_this_hitCount] 13 [(1, .int i11), (2, .ref p_this_hitCount), (3, .int (16 : Int32)), (4, .int i12)] [] := by
    intro Ke_36 hE_36 n
    induction n with
    | zero =>
      intro _ _ h
      exact h.elim
    | succ n ih =>
      intro i11 i12 h
      unfold wq_X1_allHits_13 at h
      refine jx_iload hk dX1_allHits_13 3 rfl ?_
      refine jx_iload_n hk dX1_allHits_15 rfl 2 rfl ?_
      refine jx_icmp_ge (tgt := 36) hk dX1_allHits_16 (by decide) (fun c13 => ?_) (fun c13 => ?_)
      · replace h := h.1 c13
        refine jx_lvs (lv' := [(1, .int i11)]) [0] rfl ?_
        exact hE_36 _ h
      · replace h := h.2 c13
        refine jx_aload_n hk dX1_allHits_19 rfl 1 rfl ?_
        refine jx_iload hk dX1_allHits_20 3 rfl ?_
        obtain ⟨b14, h⟩ := h
        refine jx_iaload hk dX1_allHits_22 1 rfl b14 ?_
        refine jx_topi (fun v15 e16 => ?_)
        replace h := h v15 e16
        refine jx_istore (lv' := [(5, .int v15), (1, .int i11), (2, .ref p_this_hitCount), (3, .int (16 : Int32)), (4, .int i12)]) hk dX1_allHits_23 (by decide) rfl ?_
        refine jx_iload_n hk dX1_allHits_25 rfl 1 rfl ?_
        refine jx_iload hk dX1_allHits_26 0 rfl ?_
        refine jx_iadd hk dX1_allHits_28 ?_
        refine jx_topi (fun v17 e18 => ?_)
        replace h := h v17 e18
        refine jx_istore_n (lv' := [(1, .int v17), (5, .int v15), (2, .ref p_this_hitCount), (3, .int (16 : Int32)), (4, .int i12)]) hk dX1_allHits_29 rfl (by decide) rfl ?_
        refine jx_iincN (lvf := fun vq => [(4, .int vq), (1, .int v17), (5, .int v15), (2, .ref p_this_hitCount), (3, .int (16 : Int32))]) (c := 1) hk dX1_allHits_30 4 rfl (by decide) (by decide) (fun _ => rfl) (fun v19 e20 => ?_)
        replace h := h v19 e20
        refine jx_goto (tgt := 13) hk dX1_allHits_33 (by decide) ?_
        refine jx_lvs (lv' := [(1, .int v17), (2, .ref p_this_hitCount), (3, .int (16 : Int32)), (4, .int v19)]) [1, 3, 4, 0] rfl ?_
        exact ih _ _ h
  refine jx_lvs (lv' := [(1, .int (0 : Int32)), (2, .ref p_this_hitCount), (3, .int (16 : Int32)), (4, .int (0 : Int32))]) [3, 2, 1, 0] rfl ?_
  refine L13 _ ?_ n10 _ _ h
  intro e9 h
  refine jx_iload_n hk dX1_allHits_36 rfl 0 rfl ?_
  exact hret e9 () _ _ dX1_allHits_37 h
