set_option maxHeartbeats 4000000 in
set_option maxRecDepth 100000 in
theorem c_X4_lowest (l : Launch) (G : jG) (x0 : Int64) (x2 : Int64) (x4 : Int32) (post : Int64 → Unit → Prop) (h : wp_X4_lowest x0 x2 x4 post) : jml l yX4_lowest wsX4_lowest { frames := 0, cells := 0, slots := 0, locals := 0 } G [.long x0, .long x2, .int x4] [] (fun u : Unit => []) post 0 0 := by
  refine jm_l (cc := cX4_lowest) (maxL := 11) (by decide) rfl (Nat.le_of_ble_eq_true rfl) ?_
  intro k A hk hin hret
  unfold wp_X4_lowest at h
  show jx k G A 11 0 0 [] 0 [(0, .long x0), (2, .long x2), (4, .int x4)] []
  refine jx_lload_n hk dX4_lowest_0 rfl 0 rfl ?_
  refine jx_lstore (lv' := [(5, .long x0), (0, .long x0), (2, .long x2), (4, .int x4)]) hk dX4_lowest_1 (by decide) rfl ?_
  refine jx_lload_n hk dX4_lowest_3 rfl 2 rfl ?_
  refine jx_lstore (lv' := [(7, .long x2), (5, .long x0), (0, .long x0), (2, .long x2), (4, .int x4)]) hk dX4_lowest_4 (by decide) rfl ?_
  obtain ⟨n11, h⟩ := h
  have L6 : ∀ (Ke_31 : Int64 → Prop), (∀ (e5 : Int64), Ke_31 e5 → jx k G A 11 0 0 [] 31 [(0, .long x0), (2, .long x2), (4, .int x4), (5, .long e5)] []) → ∀ (n : Nat) (i12 : Int64) (i13 : Int64), wq_X4_lowest_6 x0 x2 x4 post Ke_31 n i12 i13 → jx k G A 11 0 0 [] 6 [(0, .long x0), (2, .long x2), (4, .int x4), (5, .long i12), (7, .long i13)] [] := by
    intro Ke_31 hE_31 n
    induction n with
    | zero =>
      intro _ _ h
      exact h.elim
    | succ n ih =>
      intro i12 i13 h
      unfold wq_X4_lowest_6 at h
      refine jx_lload hk dX4_lowest_6 4 rfl ?_
      refine jx_lconst (v := 0) hk dX4_lowest_8 (by decide) ?_
      refine jx_lcmp hk dX4_lowest_9 ?_
      refine jx_if_eq (tgt := 31) hk dX4_lowest_10 (by decide) (fun c14 => ?_) (fun c14 => ?_)
      · replace h := h.1 c14
        refine jx_lvs (lv' := [(0, .long x0), (2, .long x2), (4, .int x4), (5, .long i12)]) [0, 1, 2, 3] rfl ?_
        exact hE_31 _ h
      · replace h := h.2 c14
        refine jx_lload hk dX4_lowest_13 3 rfl ?_
        refine jx_lload hk dX4_lowest_15 4 rfl ?_
        obtain ⟨b15, h⟩ := h
        refine jx_lrem hk dX4_lowest_17 b15 ?_
        refine jx_topl (fun v16 e17 => ?_)
        replace h := h v16 e17
        refine jx_lstore (lv' := [(9, .long v16), (0, .long x0), (2, .long x2), (4, .int x4), (5, .long i12), (7, .long i13)]) hk dX4_lowest_18 (by decide) rfl ?_
        refine jx_lload hk dX4_lowest_20 5 rfl ?_
        refine jx_lstore (lv' := [(5, .long i13), (9, .long v16), (0, .long x0), (2, .long x2), (4, .int x4), (7, .long i13)]) hk dX4_lowest_22 (by decide) rfl ?_
        refine jx_lload hk dX4_lowest_24 1 rfl ?_
        refine jx_lstore (lv' := [(7, .long v16), (5, .long i13), (9, .long v16), (0, .long x0), (2, .long x2), (4, .int x4)]) hk dX4_lowest_26 (by decide) rfl ?_
        refine jx_goto (tgt := 6) hk dX4_lowest_28 (by decide) ?_
        refine jx_lvs (lv' := [(0, .long x0), (2, .long x2), (4, .int x4), (5, .long i13), (7, .long v16)]) [3, 4, 5, 1, 0] rfl ?_
        exact ih _ _ h
  refine jx_lvs (lv' := [(0, .long x0), (2, .long x2), (4, .int x4), (5, .long x0), (7, .long x2)]) [2, 3, 4, 1, 0] rfl ?_
  refine L6 _ ?_ n11 _ _ h
  intro e5 h
  refine jx_iload hk dX4_lowest_31 2 rfl ?_
  refine jx_if_ne (tgt := 43) hk dX4_lowest_33 (by decide) (fun c6 => ?_) (fun c6 => ?_)
  · replace h := h.1 c6
    refine jx_lload_n hk dX4_lowest_43 rfl 1 rfl ?_
    refine jx_lload hk dX4_lowest_44 3 rfl ?_
    obtain ⟨b7, h⟩ := h
    refine jx_ldiv hk dX4_lowest_46 b7 ?_
    exact hret (x2 / e5) () _ _ dX4_lowest_47 h
  · replace h := h.2 c6
    refine jx_lload_n hk dX4_lowest_36 rfl 0 rfl ?_
    refine jx_lload hk dX4_lowest_37 3 rfl ?_
    obtain ⟨b8, h⟩ := h
    refine jx_ldiv hk dX4_lowest_39 b8 ?_
    refine jx_topl (fun v9 e10 => ?_)
    replace h := h v9 e10
    refine jx_goto (tgt := 47) hk dX4_lowest_40 (by decide) ?_
    exact hret v9 () _ _ dX4_lowest_47 h
set_option maxHeartbeats 4000000 in
set_option maxRecDepth 100000 in
theorem c_X4_isTwo (l : Launch) (G : jG) (x0 : Int32) (post : Int32 → Unit → Prop) (h : wp_X4_isTwo x0 post) : jmi l yX4_isTwo wsX4_isTwo { frames := 1, cells := 0, slots := 0, locals := 22 } G [.int x0] [] (fun u : Unit => []) post 0 0 := by
  refine jm_z (cc := cX4_isTwo) (maxL := 1) (by decide) rfl (Nat.le_of_ble_eq_true rfl) ?_
  intro k A hk hin hret
  unfold wp_X4_isTwo at h
  show jx k G A 1 0 0 [] 0 [(0, .int x0)] []
  refine jx_iload_n hk dX4_isTwo_0 rfl 0 rfl ?_
  refine jx_iconst (v := 0) hk dX4_isTwo_1 (by decide) ?_
  refine jx_iconst (v := 1) hk dX4_isTwo_2 (by decide) ?_
  refine jx_callSi (wr := []) (ws2 := fun u1 => []) hk (c_X4_in l G x0 (0 : Int32) (1 : Int32) _ h) gX4_isTwo_X4_in nd0_X4_in rfl rfl rfl ⟨Nat.le_of_ble_eq_true rfl, Nat.le_of_ble_eq_true rfl⟩ [] [] [] rfl rfl rfl rfl (by decide) rfl (fun _ => rfl) dX4_isTwo_3 rfl (Nat.le_of_ble_eq_true rfl) ⟨Nat.zero_le _, Nat.zero_le _⟩ (fun r2 u1 h => ?_)
  exact hret r2 () _ _ dX4_isTwo_6 (jx_bool h.1) h.2
set_option maxHeartbeats 4000000 in
set_option maxRecDepth 100000 in
theorem c_X4_isThree (l : Launch) (G : jG) (x0 : Int32) (post : Int32 → Unit → Prop) (h : wp_X4_isThree x0 post) : jmi l yX4_isThree wsX4_isThree { frames := 1, cells := 0, slots := 0, locals := 22 } G [.int x0] [] (fun u : Unit => []) post 0 0 := by
  refine jm_z (cc := cX4_isThree) (maxL := 1) (by decide) rfl (Nat.le_of_ble_eq_true rfl) ?_
  intro k A hk hin hret
  unfold wp_X4_isThree at h
  show jx k G A 1 0 0 [] 0 [(0, .int x0)] []
  refine jx_iload_n hk dX4_isThree_0 rfl 0 rfl ?_
  refine jx_iconst (v := 0) hk dX4_isThree_1 (by decide) ?_
  refine jx_iconst (v := 2) hk dX4_isThree_2 (by decide) ?_
  refine jx_callSi (wr := []) (ws2 := fun u1 => []) hk (c_X4_in l G x0 (0 : Int32) (2 : Int32) _ h) gX4_isThree_X4_in nd0_X4_in rfl rfl rfl ⟨Nat.le_of_ble_eq_true rfl, Nat.le_of_ble_eq_true rfl⟩ [] [] [] rfl rfl rfl rfl (by decide) rfl (fun _ => rfl) dX4_isThree_3 rfl (Nat.le_of_ble_eq_true rfl) ⟨Nat.zero_le _, Nat.zero_le _⟩ (fun r2 u1 h => ?_)
  exact hret r2 () _ _ dX4_isThree_6 (jx_bool h.1) h.2
set_option maxHeartbeats 4000000 in
set_option maxRecDepth 100000 in
theorem c_X4_isLine (l : Launch) (G : jG) (x0 : Int32) (post : Int32 → Unit → Prop) (h : wp_X4_isLine x0 post) : jmi l yX4_isLine wsX4_isLine { frames := 1, cells := 0, slots := 0, locals := 22 } G [.int x0] [] (fun u : Unit => []) post 0 0 := by
  refine jm_z (cc := cX4_isLine) (maxL := 1) (by decide) rfl (Nat.le_of_ble_eq_true rfl) ?_
  intro k A hk hin hret
  unfold wp_X4_isLine at h
  show jx k G A 1 0 0 [] 0 [(0, .int x0)] []
  refine jx_iload_n hk dX4_isLine_0 rfl 0 rfl ?_
  refine jx_iconst (v := 0) hk dX4_isLine_1 (by decide) ?_
  refine jx_bipush (v := 15) hk dX4_isLine_2 (by decide) ?_
  refine jx_callSi (wr := []) (ws2 := fun u1 => []) hk (c_X4_in l G x0 (0 : Int32) (15 : Int32) _ h) gX4_isLine_X4_in nd0_X4_in rfl rfl rfl ⟨Nat.le_of_ble_eq_true rfl, Nat.le_of_ble_eq_true rfl⟩ [] [] [] rfl rfl rfl rfl (by decide) rfl (fun _ => rfl) dX4_isLine_4 rfl (Nat.le_of_ble_eq_true rfl) ⟨Nat.zero_le _, Nat.zero_le _⟩ (fun r2 u1 h => ?_)
  exact hret r2 () _ _ dX4_isLine_7 (jx_bool h.1) h.2
set_option maxHeartbeats 4000000 in
set_option maxRecDepth 100000 in
theorem c_X4_isColumn (l : Launch) (G : jG) (x0 : Int32) (post : Int32 → Unit → Prop) (h : wp_X4_isColumn x0 post) : jmi l yX4_isColumn wsX4_isColumn { frames := 1, cells := 0, slots := 0, locals := 22 } G [.int x0] [] (fun u : Unit => []) post 0 0 := by
  refine jm_z (cc := cX4_isColumn) (maxL := 1) (by decide) rfl (Nat.le_of_ble_eq_true rfl) ?_
  intro k A hk hin hret
  unfold wp_X4_isColumn at h
  show jx k G A 1 0 0 [] 0 [(0, .int x0)] []
  refine jx_iload_n hk dX4_isColumn_0 rfl 0 rfl ?_
  refine jx_iconst (v := 0) hk dX4_isColumn_1 (by decide) ?_
  refine jx_bipush (v := 7) hk dX4_isColumn_2 (by decide) ?_
  refine jx_callSi (wr := []) (ws2 := fun u1 => []) hk (c_X4_in l G x0 (0 : Int32) (7 : Int32) _ h) gX4_isColumn_X4_in nd0_X4_in rfl rfl rfl ⟨Nat.le_of_ble_eq_true rfl, Nat.le_of_ble_eq_true rfl⟩ [] [] [] rfl rfl rfl rfl (by decide) rfl (fun _ => rfl) dX4_isColumn_4 rfl (Nat.le_of_ble_eq_true rfl) ⟨Nat.zero_le _, Nat.zero_le _⟩ (fun r2 u1 h => ?_)
  exact hret r2 () _ _ dX4_isColumn_7 (jx_bool h.1) h.2
set_option maxHeartbeats 4000000 in
set_option maxRecDepth 100000 in
theorem c_X4_line (l : Launch) (G : jG) (p_this p_this_told p_this_head p_this_eventKind p_this_eventAt p_this_eventNozzle p_this_dots p_this_now p_this_hitMany p_this_hitPass p_this_hitNozzle p_this_hitPrints p_this_canMany p_this_printedBy p_this_missing p_this_prints p_this_gutter p_this_able p_this_planRow p_this_seenLine p_this_seenMany p_this_missedBy p_this_isThere p_this_forms p_this_sizes p_this_items p_this_moved : Nat) (f_this_events : Int32) (f_this_notEvents : Int32) (f_this_deadNow : Int32) (f_this_allMissed : Int32) (f_this_allWanted : Int32) (f_this_allPrinted : Int32) (f_this_seens : Int32) (f_this_finding : Int32) (c_this_told : Nat → Int32) (x1 : Int32) (x2 : Int32) (post : Int32 → ((Nat → Int32)) → Prop) (h : wp_X4_line x1 x2 c_this_told post) : jmi l yX4_line wsX4_line { frames := 2, cells := 0, slots := 0, locals := 42 } G [.ref p_this, .int x1, .int x2] [job p_this 4 [.ref p_this_told, .ref p_this_head, .int f_this_events, .ref p_this_eventKind, .ref p_this_eventAt, .ref p_this_eventNozzle, .ref p_this_dots, .ref p_this_now, .int f_this_notEvents, .int f_this_deadNow, .ref p_this_hitMany, .ref p_this_hitPass, .ref p_this_hitNozzle, .ref p_this_hitPrints, .ref p_this_canMany, .ref p_this_printedBy, .ref p_this_missing, .ref p_this_prints, .ref p_this_gutter, .int f_this_allMissed, .int f_this_allWanted, .int f_this_allPrinted, .ref p_this_able, .ref p_this_planRow, .int f_this_seens, .ref p_this_seenLine, .ref p_this_seenMany, .ref p_this_missedBy, .ref p_this_isThere, .ref p_this_forms, .ref p_this_sizes, .ref p_this_items, .ref p_this_moved, .int f_this_finding], jai G p_this_told 16 c_this_told] (fun u : (Nat → Int32) => [job p_this 4 [.ref p_this_told, .ref p_this_head, .int f_this_events, .ref p_this_eventKind, .ref p_this_eventAt, .ref p_this_eventNozzle, .ref p_this_dots, .ref p_this_now, .int f_this_notEvents, .int f_this_deadNow, .ref p_this_hitMany, .ref p_this_hitPass, .ref p_this_hitNozzle, .ref p_this_hitPrints, .ref p_this_canMany, .ref p_this_printedBy, .ref p_this_missing, .ref p_this_prints, .ref p_this_gutter, .int f_this_allMissed, .int f_this_allWanted, .int f_this_allPrinted, .ref p_this_able, .ref p_this_planRow, .int f_this_seens, .ref p_this_seenLine, .ref p_this_seenMany, .ref p_this_missedBy, .ref p_this_isThere, .ref p_this_forms, .ref p_this_sizes, .ref p_this_items, .ref p_this_moved, .int f_this_finding], jai G p_this_told 16 u]) post 0 0 := by
  refine jm_i (cc := cX4_line) (maxL := 4) (by decide) rfl (Nat.le_of_ble_eq_true rfl) ?_
  intro k A hk hin hret
  unfold wp_X4_line at h
  have hiX4 : ∀ w ∈ u_ws RX4 TX4 34, w ∈ wsX4_line := (fun w h => List.mem_cons_of_mem _ (List.mem_append_right _ h))
  show jx k G A 4 0 0 [job p_this 4 [.ref p_this_told, .ref p_this_head, .int f_this_events, .ref p_this_eventKind, .ref p_this_eventAt, .ref p_this_eventNozzle, .ref p_this_dots, .ref p_this_now, .int f_this_notEvents, .int f_this_deadNow, .ref p_this_hitMany, .ref p_this_hitPass, .ref p_this_hitNozzle, .ref p_this_hitPrints, .ref p_this_canMany, .ref p_this_printedBy, .ref p_this_missing, .ref p_this_prints, .ref p_this_gutter, .int f_this_allMissed, .int f_this_allWanted, .int f_this_allPrinted, .ref p_this_able, .ref p_this_planRow, .int f_this_seens, .ref p_this_seenLine, .ref p_this_seenMany, .ref p_this_missedBy, .ref p_this_isThere, .ref p_this_forms, .ref p_this_sizes, .ref p_this_items, .ref p_this_moved, .int f_this_finding], jai G p_this_told 16 c_this_told] 0 [(0, .ref p_this), (1, .int x1), (2, .int x2)] []
  refine jx_iload_n hk dX4_line_0 rfl 1 rfl ?_
  refine jx_callSi (wr := [job p_this 4 [.ref p_this_told, .ref p_this_head, .int f_this_events, .ref p_this_eventKind, .ref p_this_eventAt, .ref p_this_eventNozzle, .ref p_this_dots, .ref p_this_now, .int f_this_notEvents, .int f_this_deadNow, .ref p_this_hitMany, .ref p_this_hitPass, .ref p_this_hitNozzle, .ref p_this_hitPrints, .ref p_this_canMany, .ref p_this_printedBy, .ref p_this_missing, .ref p_this_prints, .ref p_this_gutter, .int f_this_allMissed, .int f_this_allWanted, .int f_this_allPrinted, .ref p_this_able, .ref p_this_planRow, .int f_this_seens, .ref p_this_seenLine, .ref p_this_seenMany, .ref p_this_missedBy, .ref p_this_isThere, .ref p_this_forms, .ref p_this_sizes, .ref p_this_items, .ref p_this_moved, .int f_this_finding], jai G p_this_told 16 c_this_told]) (ws2 := fun u1 => [job p_this 4 [.ref p_this_told, .ref p_this_head, .int f_this_events, .ref p_this_eventKind, .ref p_this_eventAt, .ref p_this_eventNozzle, .ref p_this_dots, .ref p_this_now, .int f_this_notEvents, .int f_this_deadNow, .ref p_this_hitMany, .ref p_this_hitPass, .ref p_this_hitNozzle, .ref p_this_hitPrints, .ref p_this_canMany, .ref p_this_printedBy, .ref p_this_missing, .ref p_this_prints, .ref p_this_gutter, .int f_this_allMissed, .int f_this_allWanted, .int f_this_allPrinted, .ref p_this_able, .ref p_this_planRow, .int f_this_seens, .ref p_this_seenLine, .ref p_this_seenMany, .ref p_this_missedBy, .ref p_this_isThere, .ref p_this_forms, .ref p_this_sizes, .ref p_this_items, .ref p_this_moved, .int f_this_finding], jai G p_this_told 16 c_this_told]) hk (c_X4_isLine l G x1 _ h) gX4_line_X4_isLine nd0_X4_isLine rfl rfl rfl ⟨Nat.le_of_ble_eq_true rfl, Nat.le_of_ble_eq_true rfl⟩ [] [0, 1] [0, 1] rfl rfl rfl rfl (by decide) rfl (fun _ => rfl) dX4_line_1 rfl (Nat.le_of_ble_eq_true rfl) ⟨Nat.zero_le _, Nat.zero_le _⟩ (fun r2 u1 h => ?_)
  refine jx_if_eq (tgt := 18) hk dX4_line_4 (by decide) (fun c3 => ?_) (fun c3 => ?_)
  · replace h := h.1 c3
    refine jx_bipush (v := (-2)) hk dX4_line_18 (by decide) ?_
    exact hret (-2 : Int32) c_this_told _ _ dX4_line_20 h
  · replace h := h.2 c3
    refine jx_iload_n hk dX4_line_7 rfl 2 rfl ?_
    refine jx_iconst (v := 0) hk dX4_line_8 (by decide) ?_
    refine jx_sipush (v := 255) hk dX4_line_9 (by decide) ?_
    refine jx_callSi (wr := [job p_this 4 [.ref p_this_told, .ref p_this_head, .int f_this_events, .ref p_this_eventKind, .ref p_this_eventAt, .ref p_this_eventNozzle, .ref p_this_dots, .ref p_this_now, .int f_this_notEvents, .int f_this_deadNow, .ref p_this_hitMany, .ref p_this_hitPass, .ref p_this_hitNozzle, .ref p_this_hitPrints, .ref p_this_canMany, .ref p_this_printedBy, .ref p_this_missing, .ref p_this_prints, .ref p_this_gutter, .int f_this_allMissed, .int f_this_allWanted, .int f_this_allPrinted, .ref p_this_able, .ref p_this_planRow, .int f_this_seens, .ref p_this_seenLine, .ref p_this_seenMany, .ref p_this_missedBy, .ref p_this_isThere, .ref p_this_forms, .ref p_this_sizes, .ref p_this_items, .ref p_this_moved, .int f_this_finding], jai G p_this_told 16 c_this_told]) (ws2 := fun u4 => [job p_this 4 [.ref p_this_told, .ref p_this_head, .int f_this_events, .ref p_this_eventKind, .ref p_this_eventAt, .ref p_this_eventNozzle, .ref p_this_dots, .ref p_this_now, .int f_this_notEvents, .int f_this_deadNow, .ref p_this_hitMany, .ref p_this_hitPass, .ref p_this_hitNozzle, .ref p_this_hitPrints, .ref p_this_canMany, .ref p_this_printedBy, .ref p_this_missing, .ref p_this_prints, .ref p_this_gutter, .int f_this_allMissed, .int f_this_allWanted, .int f_this_allPrinted, .ref p_this_able, .ref p_this_planRow, .int f_this_seens, .ref p_this_seenLine, .ref p_this_seenMany, .ref p_this_missedBy, .ref p_this_isThere, .ref p_this_forms, .ref p_this_sizes, .ref p_this_items, .ref p_this_moved, .int f_this_finding], jai G p_this_told 16 c_this_told]) hk (c_X4_in l G x2 (0 : Int32) (255 : Int32) _ h) gX4_line_X4_in nd0_X4_in rfl rfl rfl ⟨Nat.le_of_ble_eq_true rfl, Nat.le_of_ble_eq_true rfl⟩ [] [0, 1] [0, 1] rfl rfl rfl rfl (by decide) rfl (fun _ => rfl) dX4_line_12 rfl (Nat.le_of_ble_eq_true rfl) ⟨Nat.zero_le _, Nat.zero_le _⟩ (fun r5 u4 h => ?_)
    refine jx_if_ne (tgt := 21) hk dX4_line_15 (by decide) (fun c6 => ?_) (fun c6 => ?_)
    · replace h := h.1 c6
      refine jx_aload_n hk dX4_line_21 rfl 0 rfl ?_
      refine jx_get (C := RX4) (T := TX4) (N := 34) (ci := 4) (v := .ref p_this_told) hk hiX4 0 rfl rfl 0 (by decide) (List.mem_of_getElem? (i := 1) rfl) rfl dX4_line_22 ?_
      refine jx_iload_n hk dX4_line_25 rfl 1 rfl ?_
      obtain ⟨b7, h⟩ := h
      refine jx_iaload hk dX4_line_26 1 rfl b7 ?_
      refine jx_topi (fun v8 e9 => ?_)
      replace h := h v8 e9
      refine jx_istore_n (lv' := [(3, .int v8), (0, .ref p_this), (1, .int x1), (2, .int x2)]) hk dX4_line_27 rfl (by decide) rfl ?_
      refine jx_aload_n hk dX4_line_28 rfl 1 rfl ?_
      refine jx_get (C := RX4) (T := TX4) (N := 34) (ci := 4) (v := .ref p_this_told) hk hiX4 0 rfl rfl 0 (by decide) (List.mem_of_getElem? (i := 1) rfl) rfl dX4_line_29 ?_
      refine jx_iload_n hk dX4_line_32 rfl 2 rfl ?_
      refine jx_iload_n hk dX4_line_33 rfl 3 rfl ?_
      obtain ⟨b10, h⟩ := h
      refine jx_iastore (ws' := [job p_this 4 [.ref p_this_told, .ref p_this_head, .int f_this_events, .ref p_this_eventKind, .ref p_this_eventAt, .ref p_this_eventNozzle, .ref p_this_dots, .ref p_this_now, .int f_this_notEvents, .int f_this_deadNow, .ref p_this_hitMany, .ref p_this_hitPass, .ref p_this_hitNozzle, .ref p_this_hitPrints, .ref p_this_canMany, .ref p_this_printedBy, .ref p_this_missing, .ref p_this_prints, .ref p_this_gutter, .int f_this_allMissed, .int f_this_allWanted, .int f_this_allPrinted, .ref p_this_able, .ref p_this_planRow, .int f_this_seens, .ref p_this_seenLine, .ref p_this_seenMany, .ref p_this_missedBy, .ref p_this_isThere, .ref p_this_forms, .ref p_this_sizes, .ref p_this_items, .ref p_this_moved, .int f_this_finding], jai G p_this_told 16 (upd c_this_told x1.toNatClampNeg x2)]) hk dX4_line_34 1 rfl b10 rfl ?_
      refine jx_iload_n hk dX4_line_35 rfl 0 rfl ?_
      exact hret v8 (upd c_this_told x1.toNatClampNeg x2) _ _ dX4_line_36 h
    · replace h := h.2 c6
      refine jx_bipush (v := (-2)) hk dX4_line_18 (by decide) ?_
      exact hret (-2 : Int32) c_this_told _ _ dX4_line_20 h
set_option maxHeartbeats 4000000 in
set_option maxRecDepth 100000 in
theorem c_X4_isSetting (l : Launch) (G : jG) (x0 : Int32) (x1 : Int32) (post : Int32 → Unit → Prop) (h : wp_X4_isSetting x0 x1 post) : jmi l yX4_isSetting wsX4_isSetting { frames := 1, cells := 0, slots := 0, locals := 22 } G [.int x0, .int x1] [] (fun u : Unit => []) post 0 0 := by
  refine jm_z (cc := cX4_isSetting) (maxL := 2) (by decide) rfl (Nat.le_of_ble_eq_true rfl) ?_
  intro k A hk hin hret
  unfold wp_X4_isSetting at h
  show jx k G A 2 0 0 [] 0 [(0, .int x0), (1, .int x1)] []
  refine jx_iload_n hk dX4_isSetting_0 rfl 0 rfl ?_
  by_cases c1 : x0 = 0
  · replace h := h.1 c1
    refine jx_tin (off := 51) (tgt := 52) hk dX4_isSetting_1 c1 (by decide) (by decide) rfl (by decide) ?_
    refine jx_iload_n hk dX4_isSetting_52 rfl 1 rfl ?_
    refine jx_iconst (v := 1) hk dX4_isSetting_53 (by decide) ?_
    refine jx_bipush (v := 8) hk dX4_isSetting_54 (by decide) ?_
    refine jx_callSi (wr := []) (ws2 := fun u2 => []) hk (c_X4_in l G x1 (1 : Int32) (8 : Int32) _ h) gX4_isSetting_X4_in nd0_X4_in rfl rfl rfl ⟨Nat.le_of_ble_eq_true rfl, Nat.le_of_ble_eq_true rfl⟩ [] [] [] rfl rfl rfl rfl (by decide) rfl (fun _ => rfl) dX4_isSetting_56 rfl (Nat.le_of_ble_eq_true rfl) ⟨Nat.zero_le _, Nat.zero_le _⟩ (fun r3 u2 h => ?_)
    exact hret r3 () _ _ dX4_isSetting_59 (jx_bool h.1) h.2
  · replace h := h.2 c1
    by_cases c4 : x0 = 1
    · replace h := h.1 c4
      refine jx_tin (off := 59) (tgt := 60) hk dX4_isSetting_1 c4 (by decide) (by decide) rfl (by decide) ?_
      refine jx_iload_n hk dX4_isSetting_60 rfl 1 rfl ?_
      refine jx_iconst (v := 1) hk dX4_isSetting_61 (by decide) ?_
      refine jx_iconst (v := 5) hk dX4_isSetting_62 (by decide) ?_
      refine jx_callSi (wr := []) (ws2 := fun u5 => []) hk (c_X4_in l G x1 (1 : Int32) (5 : Int32) _ h) gX4_isSetting_X4_in nd0_X4_in rfl rfl rfl ⟨Nat.le_of_ble_eq_true rfl, Nat.le_of_ble_eq_true rfl⟩ [] [] [] rfl rfl rfl rfl (by decide) rfl (fun _ => rfl) dX4_isSetting_63 rfl (Nat.le_of_ble_eq_true rfl) ⟨Nat.zero_le _, Nat.zero_le _⟩ (fun r6 u5 h => ?_)
      exact hret r6 () _ _ dX4_isSetting_66 (jx_bool h.1) h.2
    · replace h := h.2 c4
      by_cases c7 : x0 = 2
      · replace h := h.1 c7
        refine jx_tin (off := 66) (tgt := 67) hk dX4_isSetting_1 c7 (by decide) (by decide) rfl (by decide) ?_
        refine jx_iload_n hk dX4_isSetting_67 rfl 1 rfl ?_
        refine jx_iconst (v := 1) hk dX4_isSetting_68 (by decide) ?_
        refine jx_bipush (v := 12) hk dX4_isSetting_69 (by decide) ?_
        refine jx_callSi (wr := []) (ws2 := fun u8 => []) hk (c_X4_in l G x1 (1 : Int32) (12 : Int32) _ h) gX4_isSetting_X4_in nd0_X4_in rfl rfl rfl ⟨Nat.le_of_ble_eq_true rfl, Nat.le_of_ble_eq_true rfl⟩ [] [] [] rfl rfl rfl rfl (by decide) rfl (fun _ => rfl) dX4_isSetting_71 rfl (Nat.le_of_ble_eq_true rfl) ⟨Nat.zero_le _, Nat.zero_le _⟩ (fun r9 u8 h => ?_)
        exact hret r9 () _ _ dX4_isSetting_74 (jx_bool h.1) h.2
      · replace h := h.2 c7
        by_cases c10 : x0 = 3
        · replace h := h.1 c10
          refine jx_tin (off := 66) (tgt := 67) hk dX4_isSetting_1 c10 (by decide) (by decide) rfl (by decide) ?_
          refine jx_iload_n hk dX4_isSetting_67 rfl 1 rfl ?_
          refine jx_iconst (v := 1) hk dX4_isSetting_68 (by decide) ?_
          refine jx_bipush (v := 12) hk dX4_isSetting_69 (by decide) ?_
          refine jx_callSi (wr := []) (ws2 := fun u11 => []) hk (c_X4_in l G x1 (1 : Int32) (12 : Int32) _ h) gX4_isSetting_X4_in nd0_X4_in rfl rfl rfl ⟨Nat.le_of_ble_eq_true rfl, Nat.le_of_ble_eq_true rfl⟩ [] [] [] rfl rfl rfl rfl (by decide) rfl (fun _ => rfl) dX4_isSetting_71 rfl (Nat.le_of_ble_eq_true rfl) ⟨Nat.zero_le _, Nat.zero_le _⟩ (fun r12 u11 h => ?_)
          exact hret r12 () _ _ dX4_isSetting_74 (jx_bool h.1) h.2
        · replace h := h.2 c10
          by_cases c13 : x0 = 4
          · replace h := h.1 c13
            refine jx_tin (off := 74) (tgt := 75) hk dX4_isSetting_1 c13 (by decide) (by decide) rfl (by decide) ?_
            refine jx_iload_n hk dX4_isSetting_75 rfl 1 rfl ?_
            refine jx_bipush (v := (-20)) hk dX4_isSetting_76 (by decide) ?_
            refine jx_iconst (v := 0) hk dX4_isSetting_78 (by decide) ?_
            refine jx_callSi (wr := []) (ws2 := fun u14 => []) hk (c_X4_in l G x1 (-20 : Int32) (0 : Int32) _ h) gX4_isSetting_X4_in nd0_X4_in rfl rfl rfl ⟨Nat.le_of_ble_eq_true rfl, Nat.le_of_ble_eq_true rfl⟩ [] [] [] rfl rfl rfl rfl (by decide) rfl (fun _ => rfl) dX4_isSetting_79 rfl (Nat.le_of_ble_eq_true rfl) ⟨Nat.zero_le _, Nat.zero_le _⟩ (fun r15 u14 h => ?_)
            exact hret r15 () _ _ dX4_isSetting_82 (jx_bool h.1) h.2
          · replace h := h.2 c13
            by_cases c16 : x0 = 5
            · replace h := h.1 c16
              refine jx_tin (off := 51) (tgt := 52) hk dX4_isSetting_1 c16 (by decide) (by decide) rfl (by decide) ?_
              refine jx_iload_n hk dX4_isSetting_52 rfl 1 rfl ?_
              refine jx_iconst (v := 1) hk dX4_isSetting_53 (by decide) ?_
              refine jx_bipush (v := 8) hk dX4_isSetting_54 (by decide) ?_
              refine jx_callSi (wr := []) (ws2 := fun u17 => []) hk (c_X4_in l G x1 (1 : Int32) (8 : Int32) _ h) gX4_isSetting_X4_in nd0_X4_in rfl rfl rfl ⟨Nat.le_of_ble_eq_true rfl, Nat.le_of_ble_eq_true rfl⟩ [] [] [] rfl rfl rfl rfl (by decide) rfl (fun _ => rfl) dX4_isSetting_56 rfl (Nat.le_of_ble_eq_true rfl) ⟨Nat.zero_le _, Nat.zero_le _⟩ (fun r18 u17 h => ?_)
              exact hret r18 () _ _ dX4_isSetting_59 (jx_bool h.1) h.2
            · replace h := h.2 c16
              by_cases c19 : x0 = 6
              · replace h := h.1 c19
                refine jx_tin (off := 82) (tgt := 83) hk dX4_isSetting_1 c19 (by decide) (by decide) rfl (by decide) ?_
                refine jx_iload_n hk dX4_isSetting_83 rfl 1 rfl ?_
                refine jx_iconst (v := 1) hk dX4_isSetting_84 (by decide) ?_
                refine jx_bipush (v := 6) hk dX4_isSetting_85 (by decide) ?_
                refine jx_callSi (wr := []) (ws2 := fun u20 => []) hk (c_X4_in l G x1 (1 : Int32) (6 : Int32) _ h) gX4_isSetting_X4_in nd0_X4_in rfl rfl rfl ⟨Nat.le_of_ble_eq_true rfl, Nat.le_of_ble_eq_true rfl⟩ [] [] [] rfl rfl rfl rfl (by decide) rfl (fun _ => rfl) dX4_isSetting_87 rfl (Nat.le_of_ble_eq_true rfl) ⟨Nat.zero_le _, Nat.zero_le _⟩ (fun r21 u20 h => ?_)
                exact hret r21 () _ _ dX4_isSetting_90 (jx_bool h.1) h.2
              · replace h := h.2 c19
                by_cases c22 : x0 = 7
                · replace h := h.1 c22
                  refine jx_tin (off := 90) (tgt := 91) hk dX4_isSetting_1 c22 (by decide) (by decide) rfl (by decide) ?_
                  refine jx_iload_n hk dX4_isSetting_91 rfl 1 rfl ?_
                  refine jx_iconst (v := 0) hk dX4_isSetting_92 (by decide) ?_
                  refine jx_iconst (v := 3) hk dX4_isSetting_93 (by decide) ?_
                  refine jx_callSi (wr := []) (ws2 := fun u23 => []) hk (c_X4_in l G x1 (0 : Int32) (3 : Int32) _ h) gX4_isSetting_X4_in nd0_X4_in rfl rfl rfl ⟨Nat.le_of_ble_eq_true rfl, Nat.le_of_ble_eq_true rfl⟩ [] [] [] rfl rfl rfl rfl (by decide) rfl (fun _ => rfl) dX4_isSetting_94 rfl (Nat.le_of_ble_eq_true rfl) ⟨Nat.zero_le _, Nat.zero_le _⟩ (fun r24 u23 h => ?_)
                  exact hret r24 () _ _ dX4_isSetting_97 (jx_bool h.1) h.2
                · replace h := h.2 c22
                  by_cases c25 : x0 = 8
                  · replace h := h.1 c25
                    refine jx_tin (off := 90) (tgt := 91) hk dX4_isSetting_1 c25 (by decide) (by decide) rfl (by decide) ?_
                    refine jx_iload_n hk dX4_isSetting_91 rfl 1 rfl ?_
                    refine jx_iconst (v := 0) hk dX4_isSetting_92 (by decide) ?_
                    refine jx_iconst (v := 3) hk dX4_isSetting_93 (by decide) ?_
                    refine jx_callSi (wr := []) (ws2 := fun u26 => []) hk (c_X4_in l G x1 (0 : Int32) (3 : Int32) _ h) gX4_isSetting_X4_in nd0_X4_in rfl rfl rfl ⟨Nat.le_of_ble_eq_true rfl, Nat.le_of_ble_eq_true rfl⟩ [] [] [] rfl rfl rfl rfl (by decide) rfl (fun _ => rfl) dX4_isSetting_94 rfl (Nat.le_of_ble_eq_true rfl) ⟨Nat.zero_le _, Nat.zero_le _⟩ (fun r27 u26 h => ?_)
                    exact hret r27 () _ _ dX4_isSetting_97 (jx_bool h.1) h.2
                  · replace h := h.2 c25
                    refine jx_tout (tgt := 98) hk dX4_isSetting_1 (by have q0 := lv_neT (a := 0) c1 (by decide); have q1 := lv_neT (a := 1) c4 (by decide); have q2 := lv_neT (a := 2) c7 (by decide); have q3 := lv_neT (a := 3) c10 (by decide); have q4 := lv_neT (a := 4) c13 (by decide); have q5 := lv_neT (a := 5) c16 (by decide); have q6 := lv_neT (a := 6) c19 (by decide); have q7 := lv_neT (a := 7) c22 (by decide); have q8 := lv_neT (a := 8) c25 (by decide); omega) (by decide) ?_
                    refine jx_iconst (v := 0) hk dX4_isSetting_98 (by decide) ?_
                    exact hret (0 : Int32) () _ _ dX4_isSetting_99 rfl h
set_option maxHeartbeats 4000000 in
set_option maxRecDepth 100000 in
theorem c_X4_set (l : Launch) (G : jG) (p_this p_this_told p_this_head p_this_eventKind p_this_eventAt p_this_eventNozzle p_this_dots p_this_now p_this_hitMany p_this_hitPass p_this_hitNozzle p_this_hitPrints p_this_canMany p_this_printedBy p_this_missing p_this_prints p_this_gutter p_this_able p_this_planRow p_this_seenLine p_this_seenMany p_this_missedBy p_this_isThere p_this_forms p_this_sizes p_this_items p_this_moved : Nat) (f_this_events : Int32) (f_this_notEvents : Int32) (f_this_deadNow : Int32) (f_this_allMissed : Int32) (f_this_allWanted : Int32) (f_this_allPrinted : Int32) (f_this_seens : Int32) (f_this_finding : Int32) (c_this_head : Nat → Int32) (x1 : Int32) (x2 : Int32) (post : Int32 → ((Nat → Int32)) → Prop) (h : wp_X4_set x1 x2 c_this_head post) : jmi l yX4_set wsX4_set { frames := 2, cells := 0, slots := 0, locals := 43 } G [.ref p_this, .int x1, .int x2] [job p_this 4 [.ref p_this_told, .ref p_this_head, .int f_this_events, .ref p_this_eventKind, .ref p_this_eventAt, .ref p_this_eventNozzle, .ref p_this_dots, .ref p_this_now, .int f_this_notEvents, .int f_this_deadNow, .ref p_this_hitMany, .ref p_this_hitPass, .ref p_this_hitNozzle, .ref p_this_hitPrints, .ref p_this_canMany, .ref p_this_printedBy, .ref p_this_missing, .ref p_this_prints, .ref p_this_gutter, .int f_this_allMissed, .int f_this_allWanted, .int f_this_allPrinted, .ref p_this_able, .ref p_this_planRow, .int f_this_seens, .ref p_this_seenLine, .ref p_this_seenMany, .ref p_this_missedBy, .ref p_this_isThere, .ref p_this_forms, .ref p_this_sizes, .ref p_this_items, .ref p_this_moved, .int f_this_finding], jai G p_this_head 9 c_this_head] (fun u : (Nat → Int32) => [job p_this 4 [.ref p_this_told, .ref p_this_head, .int f_this_events, .ref p_this_eventKind, .ref p_this_eventAt, .ref p_this_eventNozzle, .ref p_this_dots, .ref p_this_now, .int f_this_notEvents, .int f_this_deadNow, .ref p_this_hitMany, .ref p_this_hitPass, .ref p_this_hitNozzle, .ref p_this_hitPrints, .ref p_this_canMany, .ref p_this_printedBy, .ref p_this_missing, .ref p_this_prints, .ref p_this_gutter, .int f_this_allMissed, .int f_this_allWanted, .int f_this_allPrinted, .ref p_this_able, .ref p_this_planRow, .int f_this_seens, .ref p_this_seenLine, .ref p_this_seenMany, .ref p_this_missedBy, .ref p_this_isThere, .ref p_this_forms, .ref p_this_sizes, .ref p_this_items, .ref p_this_moved, .int f_this_finding], jai G p_this_head 9 u]) post 0 0 := by
  refine jm_i (cc := cX4_set) (maxL := 4) (by decide) rfl (Nat.le_of_ble_eq_true rfl) ?_
  intro k A hk hin hret
  unfold wp_X4_set at h
  have hiX4 : ∀ w ∈ u_ws RX4 TX4 34, w ∈ wsX4_set := (fun w h => List.mem_cons_of_mem _ (List.mem_append_right _ h))
  show jx k G A 4 0 0 [job p_this 4 [.ref p_this_told, .ref p_this_head, .int f_this_events, .ref p_this_eventKind, .ref p_this_eventAt, .ref p_this_eventNozzle, .ref p_this_dots, .ref p_this_now, .int f_this_notEvents, .int f_this_deadNow, .ref p_this_hitMany, .ref p_this_hitPass, .ref p_this_hitNozzle, .ref p_this_hitPrints, .ref p_this_canMany, .ref p_this_printedBy, .ref p_this_missing, .ref p_this_prints, .ref p_this_gutter, .int f_this_allMissed, .int f_this_allWanted, .int f_this_allPrinted, .ref p_this_able, .ref p_this_planRow, .int f_this_seens, .ref p_this_seenLine, .ref p_this_seenMany, .ref p_this_missedBy, .ref p_this_isThere, .ref p_this_forms, .ref p_this_sizes, .ref p_this_items, .ref p_this_moved, .int f_this_finding], jai G p_this_head 9 c_this_head] 0 [(0, .ref p_this), (1, .int x1), (2, .int x2)] []
  refine jx_iload_n hk dX4_set_0 rfl 1 rfl ?_
  refine jx_iload_n hk dX4_set_1 rfl 2 rfl ?_
  refine jx_callSi (wr := [job p_this 4 [.ref p_this_told, .ref p_this_head, .int f_this_events, .ref p_this_eventKind, .ref p_this_eventAt, .ref p_this_eventNozzle, .ref p_this_dots, .ref p_this_now, .int f_this_notEvents, .int f_this_deadNow, .ref p_this_hitMany, .ref p_this_hitPass, .ref p_this_hitNozzle, .ref p_this_hitPrints, .ref p_this_canMany, .ref p_this_printedBy, .ref p_this_missing, .ref p_this_prints, .ref p_this_gutter, .int f_this_allMissed, .int f_this_allWanted, .int f_this_allPrinted, .ref p_this_able, .ref p_this_planRow, .int f_this_seens, .ref p_this_seenLine, .ref p_this_seenMany, .ref p_this_missedBy, .ref p_this_isThere, .ref p_this_forms, .ref p_this_sizes, .ref p_this_items, .ref p_this_moved, .int f_this_finding], jai G p_this_head 9 c_this_head]) (ws2 := fun u1 => [job p_this 4 [.ref p_this_told, .ref p_this_head, .int f_this_events, .ref p_this_eventKind, .ref p_this_eventAt, .ref p_this_eventNozzle, .ref p_this_dots, .ref p_this_now, .int f_this_notEvents, .int f_this_deadNow, .ref p_this_hitMany, .ref p_this_hitPass, .ref p_this_hitNozzle, .ref p_this_hitPrints, .ref p_this_canMany, .ref p_this_printedBy, .ref p_this_missing, .ref p_this_prints, .ref p_this_gutter, .int f_this_allMissed, .int f_this_allWanted, .int f_this_allPrinted, .ref p_this_able, .ref p_this_planRow, .int f_this_seens, .ref p_this_seenLine, .ref p_this_seenMany, .ref p_this_missedBy, .ref p_this_isThere, .ref p_this_forms, .ref p_this_sizes, .ref p_this_items, .ref p_this_moved, .int f_this_finding], jai G p_this_head 9 c_this_head]) hk (c_X4_isSetting l G x1 x2 _ h) gX4_set_X4_isSetting nd0_X4_isSetting rfl rfl rfl ⟨Nat.le_of_ble_eq_true rfl, Nat.le_of_ble_eq_true rfl⟩ [] [0, 1] [0, 1] rfl rfl rfl rfl (by decide) rfl (fun _ => rfl) dX4_set_2 rfl (Nat.le_of_ble_eq_true rfl) ⟨Nat.zero_le _, Nat.zero_le _⟩ (fun r2 u1 h => ?_)
  refine jx_if_ne (tgt := 11) hk dX4_set_5 (by decide) (fun c3 => ?_) (fun c3 => ?_)
  · replace h := h.1 c3
    refine jx_aload_n hk dX4_set_11 rfl 0 rfl ?_
    refine jx_get (C := RX4) (T := TX4) (N := 34) (ci := 4) (v := .ref p_this_head) hk hiX4 0 rfl rfl 1 (by decide) (List.mem_of_getElem? (i := 2) rfl) rfl dX4_set_12 ?_
    refine jx_iload_n hk dX4_set_15 rfl 1 rfl ?_
    obtain ⟨b4, h⟩ := h
    refine jx_iaload hk dX4_set_16 1 rfl b4 ?_
    refine jx_topi (fun v5 e6 => ?_)
    replace h := h v5 e6
    refine jx_istore_n (lv' := [(3, .int v5), (0, .ref p_this), (1, .int x1), (2, .int x2)]) hk dX4_set_17 rfl (by decide) rfl ?_
    refine jx_aload_n hk dX4_set_18 rfl 1 rfl ?_
    refine jx_get (C := RX4) (T := TX4) (N := 34) (ci := 4) (v := .ref p_this_head) hk hiX4 0 rfl rfl 1 (by decide) (List.mem_of_getElem? (i := 2) rfl) rfl dX4_set_19 ?_
    refine jx_iload_n hk dX4_set_22 rfl 2 rfl ?_
    refine jx_iload_n hk dX4_set_23 rfl 3 rfl ?_
    obtain ⟨b7, h⟩ := h
    refine jx_iastore (ws' := [job p_this 4 [.ref p_this_told, .ref p_this_head, .int f_this_events, .ref p_this_eventKind, .ref p_this_eventAt, .ref p_this_eventNozzle, .ref p_this_dots, .ref p_this_now, .int f_this_notEvents, .int f_this_deadNow, .ref p_this_hitMany, .ref p_this_hitPass, .ref p_this_hitNozzle, .ref p_this_hitPrints, .ref p_this_canMany, .ref p_this_printedBy, .ref p_this_missing, .ref p_this_prints, .ref p_this_gutter, .int f_this_allMissed, .int f_this_allWanted, .int f_this_allPrinted, .ref p_this_able, .ref p_this_planRow, .int f_this_seens, .ref p_this_seenLine, .ref p_this_seenMany, .ref p_this_missedBy, .ref p_this_isThere, .ref p_this_forms, .ref p_this_sizes, .ref p_this_items, .ref p_this_moved, .int f_this_finding], jai G p_this_head 9 (upd c_this_head x1.toNatClampNeg x2)]) hk dX4_set_24 1 rfl b7 rfl ?_
    refine jx_iload_n hk dX4_set_25 rfl 0 rfl ?_
    exact hret v5 (upd c_this_head x1.toNatClampNeg x2) _ _ dX4_set_26 h
  · replace h := h.2 c3
    refine jx_ldc (v := (-2147483648)) hk dX4_set_8 (List.mem_of_getElem? (i := 1) rfl) ?_
    exact hret (-2147483648 : Int32) c_this_head _ _ dX4_set_10 h
set_option maxHeartbeats 4000000 in
set_option maxRecDepth 100000 in
theorem c_X4_event (l : Launch) (G : jG) (p_this p_this_told p_this_head p_this_eventKind p_this_eventAt p_this_eventNozzle p_this_dots p_this_now p_this_hitMany p_this_hitPass p_this_hitNozzle p_this_hitPrints p_this_canMany p_this_printedBy p_this_missing p_this_prints p_this_gutter p_this_able p_this_planRow p_this_seenLine p_this_seenMany p_this_missedBy p_this_isThere p_this_forms p_this_sizes p_this_items p_this_moved : Nat) (f_this_notEvents : Int32) (f_this_deadNow : Int32) (f_this_allMissed : Int32) (f_this_allWanted : Int32) (f_this_allPrinted : Int32) (f_this_seens : Int32) (f_this_finding : Int32) (f_this_events : Int32) (c_this_eventKind : Nat → Int32) (c_this_eventAt : Nat → Int32) (c_this_eventNozzle : Nat → Int32) (x1 : Int32) (x2 : Int32) (x3 : Int32) (post : Int32 → (Int32 × (Nat → Int32) × (Nat → Int32) × (Nat → Int32)) → Prop) (h : wp_X4_event x1 x2 x3 f_this_events c_this_eventKind c_this_eventAt c_this_eventNozzle post) : jmi l yX4_event wsX4_event { frames := 2, cells := 0, slots := 0, locals := 42 } G [.ref p_this, .int x1, .int x2, .int x3] [job p_this 4 [.ref p_this_told, .ref p_this_head, .int f_this_events, .ref p_this_eventKind, .ref p_this_eventAt, .ref p_this_eventNozzle, .ref p_this_dots, .ref p_this_now, .int f_this_notEvents, .int f_this_deadNow, .ref p_this_hitMany, .ref p_this_hitPass, .ref p_this_hitNozzle, .ref p_this_hitPrints, .ref p_this_canMany, .ref p_this_printedBy, .ref p_this_missing, .ref p_this_prints, .ref p_this_gutter, .int f_this_allMissed, .int f_this_allWanted, .int f_this_allPrinted, .ref p_this_able, .ref p_this_planRow, .int f_this_seens, .ref p_this_seenLine, .ref p_this_seenMany, .ref p_this_missedBy, .ref p_this_isThere, .ref p_this_forms, .ref p_this_sizes, .ref p_this_items, .ref p_this_moved, .int f_this_finding], jai G p_this_eventKind 8 c_this_eventKind, jai G p_this_eventAt 8 c_this_eventAt, jai G p_this_eventNozzle 8 c_this_eventNozzle] (fun u : Int32 × (Nat → Int32) × (Nat → Int32) × (Nat → Int32) => [job p_this 4 [.ref p_this_told, .ref p_this_head, .int u.1, .ref p_this_eventKind, .ref p_this_eventAt, .ref p_this_eventNozzle, .ref p_this_dots, .ref p_this_now, .int f_this_notEvents, .int f_this_deadNow, .ref p_this_hitMany, .ref p_this_hitPass, .ref p_this_hitNozzle, .ref p_this_hitPrints, .ref p_this_canMany, .ref p_this_printedBy, .ref p_this_missing, .ref p_this_prints, .ref p_this_gutter, .int f_this_allMissed, .int f_this_allWanted, .int f_this_allPrinted, .ref p_this_able, .ref p_this_planRow, .int f_this_seens, .ref p_this_seenLine, .ref p_this_seenMany, .ref p_this_missedBy, .ref p_this_isThere, .ref p_this_forms, .ref p_this_sizes, .ref p_this_items, .ref p_this_moved, .int f_this_finding], jai G p_this_eventKind 8 u.2.1, jai G p_this_eventAt 8 u.2.2.1, jai G p_this_eventNozzle 8 u.2.2.2]) post 0 0 := by
  refine jm_i (cc := cX4_event) (maxL := 4) (by decide) rfl (Nat.le_of_ble_eq_true rfl) ?_
  intro k A hk hin hret
  unfold wp_X4_event at h
  have hiX4 : ∀ w ∈ u_ws RX4 TX4 34, w ∈ wsX4_event := (fun w h => List.mem_cons_of_mem _ (List.mem_append_right _ h))
  show jx k G A 4 0 0 [job p_this 4 [.ref p_this_told, .ref p_this_head, .int f_this_events, .ref p_this_eventKind, .ref p_this_eventAt, .ref p_this_eventNozzle, .ref p_this_dots, .ref p_this_now, .int f_this_notEvents, .int f_this_deadNow, .ref p_this_hitMany, .ref p_this_hitPass, .ref p_this_hitNozzle, .ref p_this_hitPrints, .ref p_this_canMany, .ref p_this_printedBy, .ref p_this_missing, .ref p_this_prints, .ref p_this_gutter, .int f_this_allMissed, .int f_this_allWanted, .int f_this_allPrinted, .ref p_this_able, .ref p_this_planRow, .int f_this_seens, .ref p_this_seenLine, .ref p_this_seenMany, .ref p_this_missedBy, .ref p_this_isThere, .ref p_this_forms, .ref p_this_sizes, .ref p_this_items, .ref p_this_moved, .int f_this_finding], jai G p_this_eventKind 8 c_this_eventKind, jai G p_this_eventAt 8 c_this_eventAt, jai G p_this_eventNozzle 8 c_this_eventNozzle] 0 [(0, .ref p_this), (1, .int x1), (2, .int x2), (3, .int x3)] []
  refine jx_iload_n hk dX4_event_0 rfl 1 rfl ?_
  refine jx_callSi (wr := [job p_this 4 [.ref p_this_told, .ref p_this_head, .int f_this_events, .ref p_this_eventKind, .ref p_this_eventAt, .ref p_this_eventNozzle, .ref p_this_dots, .ref p_this_now, .int f_this_notEvents, .int f_this_deadNow, .ref p_this_hitMany, .ref p_this_hitPass, .ref p_this_hitNozzle, .ref p_this_hitPrints, .ref p_this_canMany, .ref p_this_printedBy, .ref p_this_missing, .ref p_this_prints, .ref p_this_gutter, .int f_this_allMissed, .int f_this_allWanted, .int f_this_allPrinted, .ref p_this_able, .ref p_this_planRow, .int f_this_seens, .ref p_this_seenLine, .ref p_this_seenMany, .ref p_this_missedBy, .ref p_this_isThere, .ref p_this_forms, .ref p_this_sizes, .ref p_this_items, .ref p_this_moved, .int f_this_finding], jai G p_this_eventKind 8 c_this_eventKind, jai G p_this_eventAt 8 c_this_eventAt, jai G p_this_eventNozzle 8 c_this_eventNozzle]) (ws2 := fun u1 => [job p_this 4 [.ref p_this_told, .ref p_this_head, .int f_this_events, .ref p_this_eventKind, .ref p_this_eventAt, .ref p_this_eventNozzle, .ref p_this_dots, .ref p_this_now, .int f_this_notEvents, .int f_this_deadNow, .ref p_this_hitMany, .ref p_this_hitPass, .ref p_this_hitNozzle, .ref p_this_hitPrints, .ref p_this_canMany, .ref p_this_printedBy, .ref p_this_missing, .ref p_this_prints, .ref p_this_gutter, .int f_this_allMissed, .int f_this_allWanted, .int f_this_allPrinted, .ref p_this_able, .ref p_this_planRow, .int f_this_seens, .ref p_this_seenLine, .ref p_this_seenMany, .ref p_this_missedBy, .ref p_this_isThere, .ref p_this_forms, .ref p_this_sizes, .ref p_this_items, .ref p_this_moved, .int f_this_finding], jai G p_this_eventKind 8 c_this_eventKind, jai G p_this_eventAt 8 c_this_eventAt, jai G p_this_eventNozzle 8 c_this_eventNozzle]) hk (c_X4_isTwo l G x1 _ h) gX4_event_X4_isTwo nd0_X4_isTwo rfl rfl rfl ⟨Nat.le_of_ble_eq_true rfl, Nat.le_of_ble_eq_true rfl⟩ [] [0, 1, 2, 3] [0, 1, 2, 3] rfl rfl rfl rfl (by decide) rfl (fun _ => rfl) dX4_event_1 rfl (Nat.le_of_ble_eq_true rfl) ⟨Nat.zero_le _, Nat.zero_le _⟩ (fun r2 u1 h => ?_)
  refine jx_if_eq (tgt := 27) hk dX4_event_4 (by decide) (fun c3 => ?_) (fun c3 => ?_)
  · replace h := h.1 c3
    refine jx_bipush (v := (-2)) hk dX4_event_27 (by decide) ?_
    exact hret (-2 : Int32) (f_this_events, c_this_eventKind, c_this_eventAt, c_this_eventNozzle) _ _ dX4_event_29 h
  · replace h := h.2 c3
    refine jx_iload_n hk dX4_event_7 rfl 2 rfl ?_
    refine jx_iconst (v := 0) hk dX4_event_8 (by decide) ?_
    refine jx_bipush (v := 11) hk dX4_event_9 (by decide) ?_
    refine jx_callSi (wr := [job p_this 4 [.ref p_this_told, .ref p_this_head, .int f_this_events, .ref p_this_eventKind, .ref p_this_eventAt, .ref p_this_eventNozzle, .ref p_this_dots, .ref p_this_now, .int f_this_notEvents, .int f_this_deadNow, .ref p_this_hitMany, .ref p_this_hitPass, .ref p_this_hitNozzle, .ref p_this_hitPrints, .ref p_this_canMany, .ref p_this_printedBy, .ref p_this_missing, .ref p_this_prints, .ref p_this_gutter, .int f_this_allMissed, .int f_this_allWanted, .int f_this_allPrinted, .ref p_this_able, .ref p_this_planRow, .int f_this_seens, .ref p_this_seenLine, .ref p_this_seenMany, .ref p_this_missedBy, .ref p_this_isThere, .ref p_this_forms, .ref p_this_sizes, .ref p_this_items, .ref p_this_moved, .int f_this_finding], jai G p_this_eventKind 8 c_this_eventKind, jai G p_this_eventAt 8 c_this_eventAt, jai G p_this_eventNozzle 8 c_this_eventNozzle]) (ws2 := fun u4 => [job p_this 4 [.ref p_this_told, .ref p_this_head, .int f_this_events, .ref p_this_eventKind, .ref p_this_eventAt, .ref p_this_eventNozzle, .ref p_this_dots, .ref p_this_now, .int f_this_notEvents, .int f_this_deadNow, .ref p_this_hitMany, .ref p_this_hitPass, .ref p_this_hitNozzle, .ref p_this_hitPrints, .ref p_this_canMany, .ref p_this_printedBy, .ref p_this_missing, .ref p_this_prints, .ref p_this_gutter, .int f_this_allMissed, .int f_this_allWanted, .int f_this_allPrinted, .ref p_this_able, .ref p_this_planRow, .int f_this_seens, .ref p_this_seenLine, .ref p_this_seenMany, .ref p_this_missedBy, .ref p_this_isThere, .ref p_this_forms, .ref p_this_sizes, .ref p_this_items, .ref p_this_moved, .int f_this_finding], jai G p_this_eventKind 8 c_this_eventKind, jai G p_this_eventAt 8 c_this_eventAt, jai G p_this_eventNozzle 8 c_this_eventNozzle]) hk (c_X4_in l G x2 (0 : Int32) (11 : Int32) _ h) gX4_event_X4_in nd0_X4_in rfl rfl rfl ⟨Nat.le_of_ble_eq_true rfl, Nat.le_of_ble_eq_true rfl⟩ [] [0, 1, 2, 3] [0, 1, 2, 3] rfl rfl rfl rfl (by decide) rfl (fun _ => rfl) dX4_event_11 rfl (Nat.le_of_ble_eq_true rfl) ⟨Nat.zero_le _, Nat.zero_le _⟩ (fun r5 u4 h => ?_)
    refine jx_if_eq (tgt := 27) hk dX4_event_14 (by decide) (fun c6 => ?_) (fun c6 => ?_)
    · replace h := h.1 c6
      refine jx_bipush (v := (-2)) hk dX4_event_27 (by decide) ?_
      exact hret (-2 : Int32) (f_this_events, c_this_eventKind, c_this_eventAt, c_this_eventNozzle) _ _ dX4_event_29 h
    · replace h := h.2 c6
      refine jx_iload_n hk dX4_event_17 rfl 3 rfl ?_
      refine jx_iconst (v := 0) hk dX4_event_18 (by decide) ?_
      refine jx_bipush (v := 7) hk dX4_event_19 (by decide) ?_
      refine jx_callSi (wr := [job p_this 4 [.ref p_this_told, .ref p_this_head, .int f_this_events, .ref p_this_eventKind, .ref p_this_eventAt, .ref p_this_eventNozzle, .ref p_this_dots, .ref p_this_now, .int f_this_notEvents, .int f_this_deadNow, .ref p_this_hitMany, .ref p_this_hitPass, .ref p_this_hitNozzle, .ref p_this_hitPrints, .ref p_this_canMany, .ref p_this_printedBy, .ref p_this_missing, .ref p_this_prints, .ref p_this_gutter, .int f_this_allMissed, .int f_this_allWanted, .int f_this_allPrinted, .ref p_this_able, .ref p_this_planRow, .int f_this_seens, .ref p_this_seenLine, .ref p_this_seenMany, .ref p_this_missedBy, .ref p_this_isThere, .ref p_this_forms, .ref p_this_sizes, .ref p_this_items, .ref p_this_moved, .int f_this_finding], jai G p_this_eventKind 8 c_this_eventKind, jai G p_this_eventAt 8 c_this_eventAt, jai G p_this_eventNozzle 8 c_this_eventNozzle]) (ws2 := fun u7 => [job p_this 4 [.ref p_this_told, .ref p_this_head, .int f_this_events, .ref p_this_eventKind, .ref p_this_eventAt, .ref p_this_eventNozzle, .ref p_this_dots, .ref p_this_now, .int f_this_notEvents, .int f_this_deadNow, .ref p_this_hitMany, .ref p_this_hitPass, .ref p_this_hitNozzle, .ref p_this_hitPrints, .ref p_this_canMany, .ref p_this_printedBy, .ref p_this_missing, .ref p_this_prints, .ref p_this_gutter, .int f_this_allMissed, .int f_this_allWanted, .int f_this_allPrinted, .ref p_this_able, .ref p_this_planRow, .int f_this_seens, .ref p_this_seenLine, .ref p_this_seenMany, .ref p_this_missedBy, .ref p_this_isThere, .ref p_this_forms, .ref p_this_sizes, .ref p_this_items, .ref p_this_moved, .int f_this_finding], jai G p_this_eventKind 8 c_this_eventKind, jai G p_this_eventAt 8 c_this_eventAt, jai G p_this_eventNozzle 8 c_this_eventNozzle]) hk (c_X4_in l G x3 (0 : Int32) (7 : Int32) _ h) gX4_event_X4_in nd0_X4_in rfl rfl rfl ⟨Nat.le_of_ble_eq_true rfl, Nat.le_of_ble_eq_true rfl⟩ [] [0, 1, 2, 3] [0, 1, 2, 3] rfl rfl rfl rfl (by decide) rfl (fun _ => rfl) dX4_event_21 rfl (Nat.le_of_ble_eq_true rfl) ⟨Nat.zero_le _, Nat.zero_le _⟩ (fun r8 u7 h => ?_)
      refine jx_if_ne (tgt := 30) hk dX4_event_24 (by decide) (fun c9 => ?_) (fun c9 => ?_)
      · replace h := h.1 c9
        refine jx_aload_n hk dX4_event_30 rfl 0 rfl ?_
        refine jx_get (C := RX4) (T := TX4) (N := 34) (ci := 4) (v := .int f_this_events) hk hiX4 0 rfl rfl 2 (by decide) (List.mem_of_getElem? (i := 1) rfl) rfl dX4_event_31 ?_
        refine jx_bipush (v := 8) hk dX4_event_34 (by decide) ?_
        refine jx_icmp_ne (tgt := 42) hk dX4_event_36 (by decide) (fun c10 => ?_) (fun c10 => ?_)
        · replace h := h.1 c10
          refine jx_aload_n hk dX4_event_42 rfl 0 rfl ?_
          refine jx_get (C := RX4) (T := TX4) (N := 34) (ci := 4) (v := .ref p_this_eventKind) hk hiX4 0 rfl rfl 3 (by decide) (List.mem_of_getElem? (i := 2) rfl) rfl dX4_event_43 ?_
          refine jx_aload_n hk dX4_event_46 rfl 0 rfl ?_
          refine jx_get (C := RX4) (T := TX4) (N := 34) (ci := 4) (v := .int f_this_events) hk hiX4 0 rfl rfl 2 (by decide) (List.mem_of_getElem? (i := 1) rfl) rfl dX4_event_47 ?_
          refine jx_iload_n hk dX4_event_50 rfl 1 rfl ?_
          obtain ⟨b11, h⟩ := h
          refine jx_iastore (ws' := [job p_this 4 [.ref p_this_told, .ref p_this_head, .int f_this_events, .ref p_this_eventKind, .ref p_this_eventAt, .ref p_this_eventNozzle, .ref p_this_dots, .ref p_this_now, .int f_this_notEvents, .int f_this_deadNow, .ref p_this_hitMany, .ref p_this_hitPass, .ref p_this_hitNozzle, .ref p_this_hitPrints, .ref p_this_canMany, .ref p_this_printedBy, .ref p_this_missing, .ref p_this_prints, .ref p_this_gutter, .int f_this_allMissed, .int f_this_allWanted, .int f_this_allPrinted, .ref p_this_able, .ref p_this_planRow, .int f_this_seens, .ref p_this_seenLine, .ref p_this_seenMany, .ref p_this_missedBy, .ref p_this_isThere, .ref p_this_forms, .ref p_this_sizes, .ref p_this_items, .ref p_this_moved, .int f_this_finding], jai G p_this_eventKind 8 (upd c_this_eventKind f_this_events.toNatClampNeg x1), jai G p_this_eventAt 8 c_this_eventAt, jai G p_this_eventNozzle 8 c_this_eventNozzle]) hk dX4_event_51 1 rfl b11 rfl ?_
          refine jx_aload_n hk dX4_event_52 rfl 0 rfl ?_
          refine jx_get (C := RX4) (T := TX4) (N := 34) (ci := 4) (v := .ref p_this_eventAt) hk hiX4 0 rfl rfl 4 (by decide) (List.mem_of_getElem? (i := 3) rfl) rfl dX4_event_53 ?_
          refine jx_aload_n hk dX4_event_56 rfl 0 rfl ?_
          refine jx_get (C := RX4) (T := TX4) (N := 34) (ci := 4) (v := .int f_this_events) hk hiX4 0 rfl rfl 2 (by decide) (List.mem_of_getElem? (i := 1) rfl) rfl dX4_event_57 ?_
          refine jx_iload_n hk dX4_event_60 rfl 2 rfl ?_
          obtain ⟨b12, h⟩ := h
          refine jx_iastore (ws' := [job p_this 4 [.ref p_this_told, .ref p_this_head, .int f_this_events, .ref p_this_eventKind, .ref p_this_eventAt, .ref p_this_eventNozzle, .ref p_this_dots, .ref p_this_now, .int f_this_notEvents, .int f_this_deadNow, .ref p_this_hitMany, .ref p_this_hitPass, .ref p_this_hitNozzle, .ref p_this_hitPrints, .ref p_this_canMany, .ref p_this_printedBy, .ref p_this_missing, .ref p_this_prints, .ref p_this_gutter, .int f_this_allMissed, .int f_this_allWanted, .int f_this_allPrinted, .ref p_this_able, .ref p_this_planRow, .int f_this_seens, .ref p_this_seenLine, .ref p_this_seenMany, .ref p_this_missedBy, .ref p_this_isThere, .ref p_this_forms, .ref p_this_sizes, .ref p_this_items, .ref p_this_moved, .int f_this_finding], jai G p_this_eventKind 8 (upd c_this_eventKind f_this_events.toNatClampNeg x1), jai G p_this_eventAt 8 (upd c_this_eventAt f_this_events.toNatClampNeg x2), jai G p_this_eventNozzle 8 c_this_eventNozzle]) hk dX4_event_61 2 rfl b12 rfl ?_
          refine jx_aload_n hk dX4_event_62 rfl 0 rfl ?_
          refine jx_get (C := RX4) (T := TX4) (N := 34) (ci := 4) (v := .ref p_this_eventNozzle) hk hiX4 0 rfl rfl 5 (by decide) (List.mem_of_getElem? (i := 4) rfl) rfl dX4_event_63 ?_
          refine jx_aload_n hk dX4_event_66 rfl 0 rfl ?_
          refine jx_get (C := RX4) (T := TX4) (N := 34) (ci := 4) (v := .int f_this_events) hk hiX4 0 rfl rfl 2 (by decide) (List.mem_of_getElem? (i := 1) rfl) rfl dX4_event_67 ?_
          refine jx_iload_n hk dX4_event_70 rfl 3 rfl ?_
          obtain ⟨b13, h⟩ := h
          refine jx_iastore (ws' := [job p_this 4 [.ref p_this_told, .ref p_this_head, .int f_this_events, .ref p_this_eventKind, .ref p_this_eventAt, .ref p_this_eventNozzle, .ref p_this_dots, .ref p_this_now, .int f_this_notEvents, .int f_this_deadNow, .ref p_this_hitMany, .ref p_this_hitPass, .ref p_this_hitNozzle, .ref p_this_hitPrints, .ref p_this_canMany, .ref p_this_printedBy, .ref p_this_missing, .ref p_this_prints, .ref p_this_gutter, .int f_this_allMissed, .int f_this_allWanted, .int f_this_allPrinted, .ref p_this_able, .ref p_this_planRow, .int f_this_seens, .ref p_this_seenLine, .ref p_this_seenMany, .ref p_this_missedBy, .ref p_this_isThere, .ref p_this_forms, .ref p_this_sizes, .ref p_this_items, .ref p_this_moved, .int f_this_finding], jai G p_this_eventKind 8 (upd c_this_eventKind f_this_events.toNatClampNeg x1), jai G p_this_eventAt 8 (upd c_this_eventAt f_this_events.toNatClampNeg x2), jai G p_this_eventNozzle 8 (upd c_this_eventNozzle f_this_events.toNatClampNeg x3)]) hk dX4_event_71 3 rfl b13 rfl ?_
          refine jx_aload_n hk dX4_event_72 rfl 0 rfl ?_
          refine jx_dup hk dX4_event_73 rfl ?_
          refine jx_get (C := RX4) (T := TX4) (N := 34) (ci := 4) (v := .int f_this_events) hk hiX4 0 rfl rfl 2 (by decide) (List.mem_of_getElem? (i := 1) rfl) rfl dX4_event_74 ?_
          refine jx_iconst (v := 1) hk dX4_event_77 (by decide) ?_
          refine jx_iadd hk dX4_event_78 ?_
          refine jx_topi (fun v14 e15 => ?_)
          replace h := h v14 e15
          refine jx_put (C := RX4) (T := TX4) (N := 34) (ci := 4) (v := .int v14) (ty := .int) (ws' := [job p_this 4 [.ref p_this_told, .ref p_this_head, .int v14, .ref p_this_eventKind, .ref p_this_eventAt, .ref p_this_eventNozzle, .ref p_this_dots, .ref p_this_now, .int f_this_notEvents, .int f_this_deadNow, .ref p_this_hitMany, .ref p_this_hitPass, .ref p_this_hitNozzle, .ref p_this_hitPrints, .ref p_this_canMany, .ref p_this_printedBy, .ref p_this_missing, .ref p_this_prints, .ref p_this_gutter, .int f_this_allMissed, .int f_this_allWanted, .int f_this_allPrinted, .ref p_this_able, .ref p_this_planRow, .int f_this_seens, .ref p_this_seenLine, .ref p_this_seenMany, .ref p_this_missedBy, .ref p_this_isThere, .ref p_this_forms, .ref p_this_sizes, .ref p_this_items, .ref p_this_moved, .int f_this_finding], jai G p_this_eventKind 8 (upd c_this_eventKind f_this_events.toNatClampNeg x1), jai G p_this_eventAt 8 (upd c_this_eventAt f_this_events.toNatClampNeg x2), jai G p_this_eventNozzle 8 (upd c_this_eventNozzle f_this_events.toNatClampNeg x3)]) hk hiX4 tyX4 tyX4_ok nmX4 0 rfl rfl 2 (by decide) (List.mem_of_getElem? (i := 1) rfl) rfl (tyX4_ok 2 (by decide)) rfl rfl (Nat.le_of_ble_eq_true rfl) dX4_event_79 rfl ?_
          refine jx_aload_n hk dX4_event_82 rfl 0 rfl ?_
          refine jx_get (C := RX4) (T := TX4) (N := 34) (ci := 4) (v := .int v14) hk hiX4 0 rfl rfl 2 (by decide) (List.mem_of_getElem? (i := 1) rfl) rfl dX4_event_83 ?_
          exact hret v14 (v14, upd c_this_eventKind f_this_events.toNatClampNeg x1, upd c_this_eventAt f_this_events.toNatClampNeg x2, upd c_this_eventNozzle f_this_events.toNatClampNeg x3) _ _ dX4_event_86 h
        · replace h := h.2 c10
          refine jx_bipush (v := (-4)) hk dX4_event_39 (by decide) ?_
          exact hret (-4 : Int32) (f_this_events, c_this_eventKind, c_this_eventAt, c_this_eventNozzle) _ _ dX4_event_41 h
      · replace h := h.2 c9
        refine jx_bipush (v := (-2)) hk dX4_event_27 (by decide) ?_
        exact hret (-2 : Int32) (f_this_events, c_this_eventKind, c_this_eventAt, c_this_eventNozzle) _ _ dX4_event_29 h
set_option maxHeartbeats 4000000 in
set_option maxRecDepth 100000 in
theorem c_X4_back (l : Launch) (G : jG) (p_this p_this_told p_this_head p_this_eventKind p_this_eventAt p_this_eventNozzle p_this_dots p_this_now p_this_hitMany p_this_hitPass p_this_hitNozzle p_this_hitPrints p_this_canMany p_this_printedBy p_this_missing p_this_prints p_this_gutter p_this_able p_this_planRow p_this_seenLine p_this_seenMany p_this_missedBy p_this_isThere p_this_forms p_this_sizes p_this_items p_this_moved : Nat) (f_this_notEvents : Int32) (f_this_deadNow : Int32) (f_this_allMissed : Int32) (f_this_allWanted : Int32) (f_this_allPrinted : Int32) (f_this_seens : Int32) (f_this_finding : Int32) (f_this_events : Int32) (post : Int32 → Int32 → Prop) (h : wp_X4_back f_this_events post) : jmi l yX4_back wsX4_back { frames := 0, cells := 0, slots := 0, locals := 0 } G [.ref p_this] [job p_this 4 [.ref p_this_told, .ref p_this_head, .int f_this_events, .ref p_this_eventKind, .ref p_this_eventAt, .ref p_this_eventNozzle, .ref p_this_dots, .ref p_this_now, .int f_this_notEvents, .int f_this_deadNow, .ref p_this_hitMany, .ref p_this_hitPass, .ref p_this_hitNozzle, .ref p_this_hitPrints, .ref p_this_canMany, .ref p_this_printedBy, .ref p_this_missing, .ref p_this_prints, .ref p_this_gutter, .int f_this_allMissed, .int f_this_allWanted, .int f_this_allPrinted, .ref p_this_able, .ref p_this_planRow, .int f_this_seens, .ref p_this_seenLine, .ref p_this_seenMany, .ref p_this_missedBy, .ref p_this_isThere, .ref p_this_forms, .ref p_this_sizes, .ref p_this_items, .ref p_this_moved, .int f_this_finding]] (fun u : Int32 => [job p_this 4 [.ref p_this_told, .ref p_this_head, .int u, .ref p_this_eventKind, .ref p_this_eventAt, .ref p_this_eventNozzle, .ref p_this_dots, .ref p_this_now, .int f_this_notEvents, .int f_this_deadNow, .ref p_this_hitMany, .ref p_this_hitPass, .ref p_this_hitNozzle, .ref p_this_hitPrints, .ref p_this_canMany, .ref p_this_printedBy, .ref p_this_missing, .ref p_this_prints, .ref p_this_gutter, .int f_this_allMissed, .int f_this_allWanted, .int f_this_allPrinted, .ref p_this_able, .ref p_this_planRow, .int f_this_seens, .ref p_this_seenLine, .ref p_this_seenMany, .ref p_this_missedBy, .ref p_this_isThere, .ref p_this_forms, .ref p_this_sizes, .ref p_this_items, .ref p_this_moved, .int f_this_finding]]) post 0 0 := by
  refine jm_i (cc := cX4_back) (maxL := 1) (by decide) rfl (Nat.le_of_ble_eq_true rfl) ?_
  intro k A hk hin hret
  unfold wp_X4_back at h
  have hiX4 : ∀ w ∈ u_ws RX4 TX4 34, w ∈ wsX4_back := (fun w h => List.mem_cons_of_mem _ (List.mem_append_right _ h))
  show jx k G A 1 0 0 [job p_this 4 [.ref p_this_told, .ref p_this_head, .int f_this_events, .ref p_this_eventKind, .ref p_this_eventAt, .ref p_this_eventNozzle, .ref p_this_dots, .ref p_this_now, .int f_this_notEvents, .int f_this_deadNow, .ref p_this_hitMany, .ref p_this_hitPass, .ref p_this_hitNozzle, .ref p_this_hitPrints, .ref p_this_canMany, .ref p_this_printedBy, .ref p_this_missing, .ref p_this_prints, .ref p_this_gutter, .int f_this_allMissed, .int f_this_allWanted, .int f_this_allPrinted, .ref p_this_able, .ref p_this_planRow, .int f_this_seens, .ref p_this_seenLine, .ref p_this_seenMany, .ref p_this_missedBy, .ref p_this_isThere, .ref p_this_forms, .ref p_this_sizes, .ref p_this_items, .ref p_this_moved, .int f_this_finding]] 0 [(0, .ref p_this)] []
  refine jx_aload_n hk dX4_back_0 rfl 0 rfl ?_
  refine jx_get (C := RX4) (T := TX4) (N := 34) (ci := 4) (v := .int f_this_events) hk hiX4 0 rfl rfl 2 (by decide) (List.mem_of_getElem? (i := 1) rfl) rfl dX4_back_1 ?_
  refine jx_if_ne (tgt := 10) hk dX4_back_4 (by decide) (fun c1 => ?_) (fun c1 => ?_)
  · replace h := h.1 c1
    refine jx_aload_n hk dX4_back_10 rfl 0 rfl ?_
    refine jx_dup hk dX4_back_11 rfl ?_
    refine jx_get (C := RX4) (T := TX4) (N := 34) (ci := 4) (v := .int f_this_events) hk hiX4 0 rfl rfl 2 (by decide) (List.mem_of_getElem? (i := 1) rfl) rfl dX4_back_12 ?_
    refine jx_iconst (v := 1) hk dX4_back_15 (by decide) ?_
    refine jx_isub hk dX4_back_16 ?_
    refine jx_topi (fun v2 e3 => ?_)
    replace h := h v2 e3
    refine jx_put (C := RX4) (T := TX4) (N := 34) (ci := 4) (v := .int v2) (ty := .int) (ws' := [job p_this 4 [.ref p_this_told, .ref p_this_head, .int v2, .ref p_this_eventKind, .ref p_this_eventAt, .ref p_this_eventNozzle, .ref p_this_dots, .ref p_this_now, .int f_this_notEvents, .int f_this_deadNow, .ref p_this_hitMany, .ref p_this_hitPass, .ref p_this_hitNozzle, .ref p_this_hitPrints, .ref p_this_canMany, .ref p_this_printedBy, .ref p_this_missing, .ref p_this_prints, .ref p_this_gutter, .int f_this_allMissed, .int f_this_allWanted, .int f_this_allPrinted, .ref p_this_able, .ref p_this_planRow, .int f_this_seens, .ref p_this_seenLine, .ref p_this_seenMany, .ref p_this_missedBy, .ref p_this_isThere, .ref p_this_forms, .ref p_this_sizes, .ref p_this_items, .ref p_this_moved, .int f_this_finding]]) hk hiX4 tyX4 tyX4_ok nmX4 0 rfl rfl 2 (by decide) (List.mem_of_getElem? (i := 1) rfl) rfl (tyX4_ok 2 (by decide)) rfl rfl (Nat.le_of_ble_eq_true rfl) dX4_back_17 rfl ?_
    refine jx_aload_n hk dX4_back_20 rfl 0 rfl ?_
    refine jx_get (C := RX4) (T := TX4) (N := 34) (ci := 4) (v := .int v2) hk hiX4 0 rfl rfl 2 (by decide) (List.mem_of_getElem? (i := 1) rfl) rfl dX4_back_21 ?_
    exact hret v2 v2 _ _ dX4_back_24 h
  · replace h := h.2 c1
    refine jx_bipush (v := (-3)) hk dX4_back_7 (by decide) ?_
    exact hret (-3 : Int32) f_this_events _ _ dX4_back_9 h
set_option maxHeartbeats 4000000 in
set_option maxRecDepth 100000 in
theorem c_X4_isSheet (l : Launch) (G : jG) (x0 : Int32) (post : Int32 → Unit → Prop) (h : wp_X4_isSheet x0 post) : jmi l yX4_isSheet wsX4_isSheet { frames := 1, cells := 0, slots := 0, locals := 22 } G [.int x0] [] (fun u : Unit => []) post 0 0 := by
  refine jm_z (cc := cX4_isSheet) (maxL := 1) (by decide) rfl (Nat.le_of_ble_eq_true rfl) ?_
  intro k A hk hin hret
  unfold wp_X4_isSheet at h
  show jx k G A 1 0 0 [] 0 [(0, .int x0)] []
  refine jx_iload_n hk dX4_isSheet_0 rfl 0 rfl ?_
  refine jx_iconst (v := 0) hk dX4_isSheet_1 (by decide) ?_
  refine jx_iconst (v := 3) hk dX4_isSheet_2 (by decide) ?_
  refine jx_callSi (wr := []) (ws2 := fun u1 => []) hk (c_X4_in l G x0 (0 : Int32) (3 : Int32) _ h) gX4_isSheet_X4_in nd0_X4_in rfl rfl rfl ⟨Nat.le_of_ble_eq_true rfl, Nat.le_of_ble_eq_true rfl⟩ [] [] [] rfl rfl rfl rfl (by decide) rfl (fun _ => rfl) dX4_isSheet_3 rfl (Nat.le_of_ble_eq_true rfl) ⟨Nat.zero_le _, Nat.zero_le _⟩ (fun r2 u1 h => ?_)
  exact hret r2 () _ _ dX4_isSheet_6 (jx_bool h.1) h.2
set_option maxHeartbeats 4000000 in
set_option maxRecDepth 100000 in
theorem c_X4_meets (l : Launch) (G : jG) (p_this p_this_told p_this_head p_this_eventKind p_this_eventAt p_this_eventNozzle p_this_dots p_this_now p_this_hitMany p_this_hitPass p_this_hitNozzle p_this_hitPrints p_this_canMany p_this_printedBy p_this_missing p_this_prints p_this_gutter p_this_able p_this_planRow p_this_seenLine p_this_seenMany p_this_missedBy p_this_isThere p_this_forms p_this_sizes p_this_items p_this_moved : Nat) (f_this_events : Int32) (f_this_notEvents : Int32) (f_this_deadNow : Int32) (f_this_allMissed : Int32) (f_this_allWanted : Int32) (f_this_allPrinted : Int32) (f_this_seens : Int32) (f_this_finding : Int32) (x1 : Int32) (post : Int32 → Int32 → Prop) (h : wp_X4_meets x1 f_this_finding post) : jmi l yX4_meets wsX4_meets { frames := 0, cells := 0, slots := 0, locals := 0 } G [.ref p_this, .int x1] [job p_this 4 [.ref p_this_told, .ref p_this_head, .int f_this_events, .ref p_this_eventKind, .ref p_this_eventAt, .ref p_this_eventNozzle, .ref p_this_dots, .ref p_this_now, .int f_this_notEvents, .int f_this_deadNow, .ref p_this_hitMany, .ref p_this_hitPass, .ref p_this_hitNozzle, .ref p_this_hitPrints, .ref p_this_canMany, .ref p_this_printedBy, .ref p_this_missing, .ref p_this_prints, .ref p_this_gutter, .int f_this_allMissed, .int f_this_allWanted, .int f_this_allPrinted, .ref p_this_able, .ref p_this_planRow, .int f_this_seens, .ref p_this_seenLine, .ref p_this_seenMany, .ref p_this_missedBy, .ref p_this_isThere, .ref p_this_forms, .ref p_this_sizes, .ref p_this_items, .ref p_this_moved, .int f_this_finding]] (fun u : Int32 => [job p_this 4 [.ref p_this_told, .ref p_this_head, .int f_this_events, .ref p_this_eventKind, .ref p_this_eventAt, .ref p_this_eventNozzle, .ref p_this_dots, .ref p_this_now, .int f_this_notEvents, .int f_this_deadNow, .ref p_this_hitMany, .ref p_this_hitPass, .ref p_this_hitNozzle, .ref p_this_hitPrints, .ref p_this_canMany, .ref p_this_printedBy, .ref p_this_missing, .ref p_this_prints, .ref p_this_gutter, .int f_this_allMissed, .int f_this_allWanted, .int f_this_allPrinted, .ref p_this_able, .ref p_this_planRow, .int f_this_seens, .ref p_this_seenLine, .ref p_this_seenMany, .ref p_this_missedBy, .ref p_this_isThere, .ref p_this_forms, .ref p_this_sizes, .ref p_this_items, .ref p_this_moved, .int u]]) post 0 0 := by
  refine jm_i (cc := cX4_meets) (maxL := 2) (by decide) rfl (Nat.le_of_ble_eq_true rfl) ?_
  intro k A hk hin hret
  unfold wp_X4_meets at h
  have hiX4 : ∀ w ∈ u_ws RX4 TX4 34, w ∈ wsX4_meets := (fun w h => List.mem_cons_of_mem _ (List.mem_append_right _ h))
  show jx k G A 2 0 0 [job p_this 4 [.ref p_this_told, .ref p_this_head, .int f_this_events, .ref p_this_eventKind, .ref p_this_eventAt, .ref p_this_eventNozzle, .ref p_this_dots, .ref p_this_now, .int f_this_notEvents, .int f_this_deadNow, .ref p_this_hitMany, .ref p_this_hitPass, .ref p_this_hitNozzle, .ref p_this_hitPrints, .ref p_this_canMany, .ref p_this_printedBy, .ref p_this_missing, .ref p_this_prints, .ref p_this_gutter, .int f_this_allMissed, .int f_this_allWanted, .int f_this_allPrinted, .ref p_this_able, .ref p_this_planRow, .int f_this_seens, .ref p_this_seenLine, .ref p_this_seenMany, .ref p_this_missedBy, .ref p_this_isThere, .ref p_this_forms, .ref p_this_sizes, .ref p_this_items, .ref p_this_moved, .int f_this_finding]] 0 [(0, .ref p_this), (1, .int x1)] []
  refine jx_aload_n hk dX4_meets_0 rfl 0 rfl ?_
  refine jx_iload_n hk dX4_meets_1 rfl 1 rfl ?_
  refine jx_put (C := RX4) (T := TX4) (N := 34) (ci := 4) (v := .int x1) (ty := .int) (ws' := [job p_this 4 [.ref p_this_told, .ref p_this_head, .int f_this_events, .ref p_this_eventKind, .ref p_this_eventAt, .ref p_this_eventNozzle, .ref p_this_dots, .ref p_this_now, .int f_this_notEvents, .int f_this_deadNow, .ref p_this_hitMany, .ref p_this_hitPass, .ref p_this_hitNozzle, .ref p_this_hitPrints, .ref p_this_canMany, .ref p_this_printedBy, .ref p_this_missing, .ref p_this_prints, .ref p_this_gutter, .int f_this_allMissed, .int f_this_allWanted, .int f_this_allPrinted, .ref p_this_able, .ref p_this_planRow, .int f_this_seens, .ref p_this_seenLine, .ref p_this_seenMany, .ref p_this_missedBy, .ref p_this_isThere, .ref p_this_forms, .ref p_this_sizes, .ref p_this_items, .ref p_this_moved, .int x1]]) hk hiX4 tyX4 tyX4_ok nmX4 0 rfl rfl 33 (by decide) (List.mem_of_getElem? (i := 1) rfl) rfl (tyX4_ok 33 (by decide)) rfl rfl (Nat.le_of_ble_eq_true rfl) dX4_meets_2 rfl ?_
  refine jx_bipush (v := (-10)) hk dX4_meets_5 (by decide) ?_
  refine jx_iload_n hk dX4_meets_7 rfl 1 rfl ?_
  refine jx_isub hk dX4_meets_8 ?_
  exact hret ((-10 : Int32) - x1) x1 _ _ dX4_meets_9 h
set_option maxHeartbeats 4000000 in
set_option maxRecDepth 100000 in
theorem c_X4_read (l : Launch) (G : jG) (p_this p_this_told p_this_head p_this_eventKind p_this_eventAt p_this_eventNozzle p_this_dots p_this_now p_this_hitMany p_this_hitPass p_this_hitNozzle p_this_hitPrints p_this_canMany p_this_printedBy p_this_missing p_this_prints p_this_gutter p_this_able p_this_planRow p_this_seenLine p_this_seenMany p_this_missedBy p_this_isThere p_this_forms p_this_sizes p_this_items p_this_moved : Nat) (f_this_events : Int32) (f_this_notEvents : Int32) (f_this_deadNow : Int32) (f_this_allMissed : Int32) (f_this_allWanted : Int32) (f_this_allPrinted : Int32) (f_this_seens : Int32) (f_this_finding : Int32) (c_this_told : Nat → Int32) (c_this_isThere : Nat → Int32) (c_this_sizes : Nat → Int32) (c_this_items : Nat → Int32) (x1 : Int32) (post : Int32 → (Int32 × (Nat → Int32)) → Prop) (h : wp_X4_read x1 f_this_finding c_this_told c_this_isThere c_this_sizes c_this_items post) : jmi l yX4_read wsX4_read { frames := 2, cells := 0, slots := 0, locals := 42 } G [.ref p_this, .int x1] [job p_this 4 [.ref p_this_told, .ref p_this_head, .int f_this_events, .ref p_this_eventKind, .ref p_this_eventAt, .ref p_this_eventNozzle, .ref p_this_dots, .ref p_this_now, .int f_this_notEvents, .int f_this_deadNow, .ref p_this_hitMany, .ref p_this_hitPass, .ref p_this_hitNozzle, .ref p_this_hitPrints, .ref p_this_canMany, .ref p_this_printedBy, .ref p_this_missing, .ref p_this_prints, .ref p_this_gutter, .int f_this_allMissed, .int f_this_allWanted, .int f_this_allPrinted, .ref p_this_able, .ref p_this_planRow, .int f_this_seens, .ref p_this_seenLine, .ref p_this_seenMany, .ref p_this_missedBy, .ref p_this_isThere, .ref p_this_forms, .ref p_this_sizes, .ref p_this_items, .ref p_this_moved, .int f_this_finding], jai G p_this_told 16 c_this_told, jaz G p_this_isThere 4 c_this_isThere, jai G p_this_sizes 4 c_this_sizes, jai G p_this_items 240 c_this_items] (fun u : Int32 × (Nat → Int32) => [job p_this 4 [.ref p_this_told, .ref p_this_head, .int f_this_events, .ref p_this_eventKind, .ref p_this_eventAt, .ref p_this_eventNozzle, .ref p_this_dots, .ref p_this_now, .int f_this_notEvents, .int f_this_deadNow, .ref p_this_hitMany, .ref p_this_hitPass, .ref p_this_hitNozzle, .ref p_this_hitPrints, .ref p_this_canMany, .ref p_this_printedBy, .ref p_this_missing, .ref p_this_prints, .ref p_this_gutter, .int f_this_allMissed, .int f_this_allWanted, .int f_this_allPrinted, .ref p_this_able, .ref p_this_planRow, .int f_this_seens, .ref p_this_seenLine, .ref p_this_seenMany, .ref p_this_missedBy, .ref p_this_isThere, .ref p_this_forms, .ref p_this_sizes, .ref p_this_items, .ref p_this_moved, .int u.1], jai G p_this_told 16 u.2, jaz G p_this_isThere 4 c_this_isThere, jai G p_this_sizes 4 c_this_sizes, jai G p_this_items 240 c_this_items]) post 0 0 := by
  refine jm_i (cc := cX4_read) (maxL := 3) (by decide) rfl (Nat.le_of_ble_eq_true rfl) ?_
  intro k A hk hin hret
  unfold wp_X4_read at h
  have hiX4 : ∀ w ∈ u_ws RX4 TX4 34, w ∈ wsX4_read := (fun w h => List.mem_cons_of_mem _ (List.mem_append_right _ h))
  show jx k G A 3 0 0 [job p_this 4 [.ref p_this_told, .ref p_this_head, .int f_this_events, .ref p_this_eventKind, .ref p_this_eventAt, .ref p_this_eventNozzle, .ref p_this_dots, .ref p_this_now, .int f_this_notEvents, .int f_this_deadNow, .ref p_this_hitMany, .ref p_this_hitPass, .ref p_this_hitNozzle, .ref p_this_hitPrints, .ref p_this_canMany, .ref p_this_printedBy, .ref p_this_missing, .ref p_this_prints, .ref p_this_gutter, .int f_this_allMissed, .int f_this_allWanted, .int f_this_allPrinted, .ref p_this_able, .ref p_this_planRow, .int f_this_seens, .ref p_this_seenLine, .ref p_this_seenMany, .ref p_this_missedBy, .ref p_this_isThere, .ref p_this_forms, .ref p_this_sizes, .ref p_this_items, .ref p_this_moved, .int f_this_finding], jai G p_this_told 16 c_this_told, jaz G p_this_isThere 4 c_this_isThere, jai G p_this_sizes 4 c_this_sizes, jai G p_this_items 240 c_this_items] 0 [(0, .ref p_this), (1, .int x1)] []
  refine jx_iload_n hk dX4_read_0 rfl 1 rfl ?_
  refine jx_callSi (wr := [job p_this 4 [.ref p_this_told, .ref p_this_head, .int f_this_events, .ref p_this_eventKind, .ref p_this_eventAt, .ref p_this_eventNozzle, .ref p_this_dots, .ref p_this_now, .int f_this_notEvents, .int f_this_deadNow, .ref p_this_hitMany, .ref p_this_hitPass, .ref p_this_hitNozzle, .ref p_this_hitPrints, .ref p_this_canMany, .ref p_this_printedBy, .ref p_this_missing, .ref p_this_prints, .ref p_this_gutter, .int f_this_allMissed, .int f_this_allWanted, .int f_this_allPrinted, .ref p_this_able, .ref p_this_planRow, .int f_this_seens, .ref p_this_seenLine, .ref p_this_seenMany, .ref p_this_missedBy, .ref p_this_isThere, .ref p_this_forms, .ref p_this_sizes, .ref p_this_items, .ref p_this_moved, .int f_this_finding], jai G p_this_told 16 c_this_told, jaz G p_this_isThere 4 c_this_isThere, jai G p_this_sizes 4 c_this_sizes, jai G p_this_items 240 c_this_items]) (ws2 := fun u24 => [job p_this 4 [.ref p_this_told, .ref p_this_head, .int f_this_events, .ref p_this_eventKind, .ref p_this_eventAt, .ref p_this_eventNozzle, .ref p_this_dots, .ref p_this_now, .int f_this_notEvents, .int f_this_deadNow, .ref p_this_hitMany, .ref p_this_hitPass, .ref p_this_hitNozzle, .ref p_this_hitPrints, .ref p_this_canMany, .ref p_this_printedBy, .ref p_this_missing, .ref p_this_prints, .ref p_this_gutter, .int f_this_allMissed, .int f_this_allWanted, .int f_this_allPrinted, .ref p_this_able, .ref p_this_planRow, .int f_this_seens, .ref p_this_seenLine, .ref p_this_seenMany, .ref p_this_missedBy, .ref p_this_isThere, .ref p_this_forms, .ref p_this_sizes, .ref p_this_items, .ref p_this_moved, .int f_this_finding], jai G p_this_told 16 c_this_told, jaz G p_this_isThere 4 c_this_isThere, jai G p_this_sizes 4 c_this_sizes, jai G p_this_items 240 c_this_items]) hk (c_X4_isSheet l G x1 _ h) gX4_read_X4_isSheet nd0_X4_isSheet rfl rfl rfl ⟨Nat.le_of_ble_eq_true rfl, Nat.le_of_ble_eq_true rfl⟩ [] [0, 1, 2, 3, 4] [0, 1, 2, 3, 4] rfl rfl rfl rfl (by decide) rfl (fun _ => rfl) dX4_read_1 rfl (Nat.le_of_ble_eq_true rfl) ⟨Nat.zero_le _, Nat.zero_le _⟩ (fun r25 u24 h => ?_)
  refine jx_if_ne (tgt := 10) hk dX4_read_4 (by decide) (fun c26 => ?_) (fun c26 => ?_)
  · replace h := h.1 c26
    refine jx_aload_n hk dX4_read_10 rfl 0 rfl ?_
    refine jx_get (C := RX4) (T := TX4) (N := 34) (ci := 4) (v := .ref p_this_isThere) hk hiX4 0 rfl rfl 28 (by decide) (List.mem_of_getElem? (i := 1) rfl) rfl dX4_read_11 ?_
    refine jx_iload_n hk dX4_read_14 rfl 1 rfl ?_
    obtain ⟨b27, h⟩ := h
    refine jx_zaload hk dX4_read_15 2 rfl b27 ?_
    refine jx_if_ne (tgt := 25) hk dX4_read_16 (by decide) (fun c28 => ?_) (fun c28 => ?_)
    · replace h := h.1 c28
      refine jx_iconst (v := 0) hk dX4_read_25 (by decide) ?_
      refine jx_istore_n (lv' := [(2, .int (0 : Int32)), (0, .ref p_this), (1, .int x1)]) hk dX4_read_26 rfl (by decide) rfl ?_
      obtain ⟨n31, h⟩ := h
      have L27 : ∀ (Ke_87 : Int32 → (Nat → Int32) → Prop), (∀ (e29 : Int32) (d30 : Nat → Int32), Ke_87 e29 d30 → jx k G A 3 0 0 [job p_this 4 [.ref p_this_told, .ref p_this_head, .int f_this_events, .ref p_this_eventKind, .ref p_this_eventAt, .ref p_this_eventNozzle, .ref p_this_dots, .ref p_this_now, .int f_this_notEvents, .int f_this_deadNow, .ref p_this_hitMany, .ref p_this_hitPass, .ref p_this_hitNozzle, .ref p_this_hitPrints, .ref p_this_canMany, .ref p_this_printedBy, .ref p_this_missing, .ref p_this_prints, .ref p_this_gutter, .int f_this_allMissed, .int f_this_allWanted, .int f_this_allPrinted, .ref p_this_able, .ref p_this_planRow, .int f_this_seens, .ref p_this_seenLine, .ref p_this_seenMany, .ref p_this_missedBy, .ref p_this_isThere, .ref p_this_forms, .ref p_this_sizes, .ref p_this_items, .ref p_this_moved, .int f_this_finding], jai G p_this_told 16 d30, jaz G p_this_isThere 4 c_this_isThere, jai G p_this_sizes 4 c_this_sizes, jai G p_this_items 240 c_this_items] 87 [(2, .int e29)] []) → ∀ (n : Nat) (i32 : Int32) (w33 : Nat → Int32), wq_X4_read_27 c_this_isThere c_this_sizes c_this_items x1 f_this_finding post Ke_87 n i32 w33 → jx k G A 3 0 0 [job p_this 4 [.ref p_this_told, .ref p_this_head, .int f_this_events, .ref p_this_eventKind, .ref p_this_eventAt, .ref p_this_eventNozzle, .ref p_this_dots, .ref p_this_now, .int f_this_notEvents, .int f_this_deadNow, .ref p_this_hitMany, .ref p_this_hitPass, .ref p_this_hitNozzle, .ref p_this_hitPrints, .ref p_this_canMany, .ref p_this_printedBy, .ref p_this_missing, .ref p_this_prints, .ref p_this_gutter, .int f_this_allMissed, .int f_this_allWanted, .int f_this_allPrinted, .ref p_this_able, .ref p_this_planRow, .int f_this_seens, .ref p_this_seenLine, .ref p_this_seenMany, .ref p_this_missedBy, .ref p_this_isThere, .ref p_this_forms, .ref p_this_sizes, .ref p_this_items, .ref p_this_moved, .int f_this_finding], jai G p_this_told 16 w33, jaz G p_this_isThere 4 c_this_isThere, jai G p_this_sizes 4 c_this_sizes, jai G p_this_items 240 c_this_items] 27 [(0, .ref p_this), (1, .int x1), (2, .int i32)] [] := by
        intro Ke_87 hE_87 n
        induction n with
        | zero =>
          intro _ _ h
          exact h.elim
        | succ n ih =>
          intro i32 w33 h
          unfold wq_X4_read_27 at h
          refine jx_iload_n hk dX4_read_27 rfl 2 rfl ?_
          refine jx_aload_n hk dX4_read_28 rfl 0 rfl ?_
          refine jx_get (C := RX4) (T := TX4) (N := 34) (ci := 4) (v := .ref p_this_sizes) hk hiX4 0 rfl rfl 30 (by decide) (List.mem_of_getElem? (i := 2) rfl) rfl dX4_read_29 ?_
          refine jx_iload_n hk dX4_read_32 rfl 1 rfl ?_
          obtain ⟨b34, h⟩ := h
          refine jx_iaload hk dX4_read_33 3 rfl b34 ?_
          refine jx_icmp_ge (tgt := 87) hk dX4_read_34 (by decide) (fun c35 => ?_) (fun c35 => ?_)
          · replace h := h.1 c35
            refine jx_lvs (lv' := [(2, .int i32)]) [2] rfl ?_
            exact hE_87 _ _ h
          · replace h := h.2 c35
            refine jx_iload_n hk dX4_read_37 rfl 2 rfl ?_
            refine jx_bipush (v := 16) hk dX4_read_38 (by decide) ?_
            refine jx_icmp_ge (tgt := 87) hk dX4_read_40 (by decide) (fun c36 => ?_) (fun c36 => ?_)
            · replace h := h.1 c36
              refine jx_lvs (lv' := [(2, .int i32)]) [2] rfl ?_
              exact hE_87 _ _ h
            · replace h := h.2 c36
              refine jx_aload_n hk dX4_read_43 rfl 0 rfl ?_
              refine jx_get (C := RX4) (T := TX4) (N := 34) (ci := 4) (v := .ref p_this_items) hk hiX4 0 rfl rfl 31 (by decide) (List.mem_of_getElem? (i := 3) rfl) rfl dX4_read_44 ?_
              refine jx_bipush (v := 60) hk dX4_read_47 (by decide) ?_
              refine jx_iload_n hk dX4_read_49 rfl 1 rfl ?_
              refine jx_imul hk dX4_read_50 ?_
              refine jx_topi (fun v37 e38 => ?_)
              replace h := h v37 e38
              refine jx_iload_n hk dX4_read_51 rfl 2 rfl ?_
              refine jx_iadd hk dX4_read_52 ?_
              refine jx_topi (fun v39 e40 => ?_)
              replace h := h v39 e40
              obtain ⟨b41, h⟩ := h
              refine jx_iaload hk dX4_read_53 4 rfl b41 ?_
              refine jx_topi (fun v42 e43 => ?_)
              replace h := h v42 e43
              refine jx_iconst (v := 0) hk dX4_read_54 (by decide) ?_
              refine jx_sipush (v := 255) hk dX4_read_55 (by decide) ?_
              refine jx_callSi (wr := [job p_this 4 [.ref p_this_told, .ref p_this_head, .int f_this_events, .ref p_this_eventKind, .ref p_this_eventAt, .ref p_this_eventNozzle, .ref p_this_dots, .ref p_this_now, .int f_this_notEvents, .int f_this_deadNow, .ref p_this_hitMany, .ref p_this_hitPass, .ref p_this_hitNozzle, .ref p_this_hitPrints, .ref p_this_canMany, .ref p_this_printedBy, .ref p_this_missing, .ref p_this_prints, .ref p_this_gutter, .int f_this_allMissed, .int f_this_allWanted, .int f_this_allPrinted, .ref p_this_able, .ref p_this_planRow, .int f_this_seens, .ref p_this_seenLine, .ref p_this_seenMany, .ref p_this_missedBy, .ref p_this_isThere, .ref p_this_forms, .ref p_this_sizes, .ref p_this_items, .ref p_this_moved, .int f_this_finding], jai G p_this_told 16 w33, jaz G p_this_isThere 4 c_this_isThere, jai G p_this_sizes 4 c_this_sizes, jai G p_this_items 240 c_this_items]) (ws2 := fun u44 => [job p_this 4 [.ref p_this_told, .ref p_this_head, .int f_this_events, .ref p_this_eventKind, .ref p_this_eventAt, .ref p_this_eventNozzle, .ref p_this_dots, .ref p_this_now, .int f_this_notEvents, .int f_this_deadNow, .ref p_this_hitMany, .ref p_this_hitPass, .ref p_this_hitNozzle, .ref p_this_hitPrints, .ref p_this_canMany, .ref p_this_printedBy, .ref p_this_missing, .ref p_this_prints, .ref p_this_gutter, .int f_this_allMissed, .int f_this_allWanted, .int f_this_allPrinted, .ref p_this_able, .ref p_this_planRow, .int f_this_seens, .ref p_this_seenLine, .ref p_this_seenMany, .ref p_this_missedBy, .ref p_this_isThere, .ref p_this_forms, .ref p_this_sizes, .ref p_this_items, .ref p_this_moved, .int f_this_finding], jai G p_this_told 16 w33, jaz G p_this_isThere 4 c_this_isThere, jai G p_this_sizes 4 c_this_sizes, jai G p_this_items 240 c_this_items]) hk (c_X4_in l G v42 (0 : Int32) (255 : Int32) _ h) gX4_read_X4_in nd0_X4_in rfl rfl rfl ⟨Nat.le_of_ble_eq_true rfl, Nat.le_of_ble_eq_true rfl⟩ [] [0, 1, 2, 3, 4] [0, 1, 2, 3, 4] rfl rfl rfl rfl (by decide) rfl (fun _ => rfl) dX4_read_58 rfl (Nat.le_of_ble_eq_true rfl) ⟨Nat.zero_le _, Nat.zero_le _⟩ (fun r45 u44 h => ?_)
              refine jx_if_eq (tgt := 87) hk dX4_read_61 (by decide) (fun c46 => ?_) (fun c46 => ?_)
              · replace h := h.1 c46
                refine jx_lvs (lv' := [(2, .int i32)]) [2] rfl ?_
                exact hE_87 _ _ h
              · replace h := h.2 c46
                refine jx_aload_n hk dX4_read_64 rfl 0 rfl ?_
                refine jx_get (C := RX4) (T := TX4) (N := 34) (ci := 4) (v := .ref p_this_told) hk hiX4 0 rfl rfl 0 (by decide) (List.mem_of_getElem? (i := 4) rfl) rfl dX4_read_65 ?_
                refine jx_iload_n hk dX4_read_68 rfl 2 rfl ?_
                refine jx_aload_n hk dX4_read_69 rfl 0 rfl ?_
                refine jx_get (C := RX4) (T := TX4) (N := 34) (ci := 4) (v := .ref p_this_items) hk hiX4 0 rfl rfl 31 (by decide) (List.mem_of_getElem? (i := 3) rfl) rfl dX4_read_70 ?_
                refine jx_bipush (v := 60) hk dX4_read_73 (by decide) ?_
                refine jx_iload_n hk dX4_read_75 rfl 1 rfl ?_
                refine jx_imul hk dX4_read_76 ?_
                refine jx_topi (fun v47 e48 => ?_)
                replace h := h v47 e48
                refine jx_iload_n hk dX4_read_77 rfl 2 rfl ?_
                refine jx_iadd hk dX4_read_78 ?_
                refine jx_topi (fun v49 e50 => ?_)
                replace h := h v49 e50
                obtain ⟨b51, h⟩ := h
                refine jx_iaload hk dX4_read_79 4 rfl b51 ?_
                refine jx_topi (fun v52 e53 => ?_)
                replace h := h v52 e53
                obtain ⟨b54, h⟩ := h
                refine jx_iastore (ws' := [job p_this 4 [.ref p_this_told, .ref p_this_head, .int f_this_events, .ref p_this_eventKind, .ref p_this_eventAt, .ref p_this_eventNozzle, .ref p_this_dots, .ref p_this_now, .int f_this_notEvents, .int f_this_deadNow, .ref p_this_hitMany, .ref p_this_hitPass, .ref p_this_hitNozzle, .ref p_this_hitPrints, .ref p_this_canMany, .ref p_this_printedBy, .ref p_this_missing, .ref p_this_prints, .ref p_this_gutter, .int f_this_allMissed, .int f_this_allWanted, .int f_this_allPrinted, .ref p_this_able, .ref p_this_planRow, .int f_this_seens, .ref p_this_seenLine, .ref p_this_seenMany, .ref p_this_missedBy, .ref p_this_isThere, .ref p_this_forms, .ref p_this_sizes, .ref p_this_items, .ref p_this_moved, .int f_this_finding], jai G p_this_told 16 (upd w33 i32.toNatClampNeg v52), jaz G p_this_isThere 4 c_this_isThere, jai G p_this_sizes 4 c_this_sizes, jai G p_this_items 240 c_this_items]) hk dX4_read_80 1 rfl b54 rfl ?_
                refine jx_iincN (lvf := fun vq => [(2, .int vq), (0, .ref p_this), (1, .int x1)]) (c := 1) hk dX4_read_81 2 rfl (by decide) (by decide) (fun _ => rfl) (fun v55 e56 => ?_)
                replace h := h v55 e56
                refine jx_goto (tgt := 27) hk dX4_read_84 (by decide) ?_
                refine jx_lvs (lv' := [(0, .ref p_this), (1, .int x1), (2, .int v55)]) [1, 2, 0] rfl ?_
                exact ih _ _ h
      refine jx_lvs (lv' := [(0, .ref p_this), (1, .int x1), (2, .int (0 : Int32))]) [1, 2, 0] rfl ?_
      refine L27 _ ?_ n31 _ _ h
      intro e29 d30 h
      refine jx_iload_n hk dX4_read_87 rfl 0 rfl ?_
      exact hret e29 (f_this_finding, d30) _ _ dX4_read_88 h
    · replace h := h.2 c28
      refine jx_aload_n hk dX4_read_19 rfl 0 rfl ?_
      refine jx_iconst (v := 1) hk dX4_read_20 (by decide) ?_
      refine jx_callVi (wr := [jai G p_this_told 16 c_this_told, jaz G p_this_isThere 4 c_this_isThere, jai G p_this_sizes 4 c_this_sizes, jai G p_this_items 240 c_this_items]) (ws2 := fun u57 => [job p_this 4 [.ref p_this_told, .ref p_this_head, .int f_this_events, .ref p_this_eventKind, .ref p_this_eventAt, .ref p_this_eventNozzle, .ref p_this_dots, .ref p_this_now, .int f_this_notEvents, .int f_this_deadNow, .ref p_this_hitMany, .ref p_this_hitPass, .ref p_this_hitNozzle, .ref p_this_hitPrints, .ref p_this_canMany, .ref p_this_printedBy, .ref p_this_missing, .ref p_this_prints, .ref p_this_gutter, .int f_this_allMissed, .int f_this_allWanted, .int f_this_allPrinted, .ref p_this_able, .ref p_this_planRow, .int f_this_seens, .ref p_this_seenLine, .ref p_this_seenMany, .ref p_this_missedBy, .ref p_this_isThere, .ref p_this_forms, .ref p_this_sizes, .ref p_this_items, .ref p_this_moved, .int u57], jai G p_this_told 16 c_this_told, jaz G p_this_isThere 4 c_this_isThere, jai G p_this_sizes 4 c_this_sizes, jai G p_this_items 240 c_this_items]) hk (c_X4_meets l G p_this p_this_told p_this_head p_this_eventKind p_this_eventAt p_this_eventNozzle p_this_dots p_this_now p_this_hitMany p_this_hitPass p_this_hitNozzle p_this_hitPrints p_this_canMany p_this_printedBy p_this_missing p_this_prints p_this_gutter p_this_able p_this_planRow p_this_seenLine p_this_seenMany p_this_missedBy p_this_isThere p_this_forms p_this_sizes p_this_items p_this_moved f_this_events f_this_notEvents f_this_deadNow f_this_allMissed f_this_allWanted f_this_allPrinted f_this_seens f_this_finding (1 : Int32) _ h) 0 rfl rfl gX4_read_X4_meets ndV_X4_meets rfl rfl rfl ⟨Nat.le_of_ble_eq_true rfl, Nat.le_of_ble_eq_true rfl⟩ [0] [1, 2, 3, 4] [4, 0, 1, 2, 3] rfl rfl rfl rfl (by decide) rfl (fun _ => rfl) dX4_read_21 rfl (Nat.le_of_ble_eq_true rfl) ⟨Nat.zero_le _, Nat.zero_le _⟩ (fun r58 u57 h => ?_)
      exact hret r58 (u57, c_this_told) _ _ dX4_read_24 h
  · replace h := h.2 c26
    refine jx_bipush (v := (-2)) hk dX4_read_7 (by decide) ?_
    exact hret (-2 : Int32) (f_this_finding, c_this_told) _ _ dX4_read_9 h
set_option maxHeartbeats 4000000 in
set_option maxRecDepth 100000 in
theorem c_X4_asTold (l : Launch) (G : jG) (p_this p_this_told p_this_head p_this_eventKind p_this_eventAt p_this_eventNozzle p_this_dots p_this_now p_this_hitMany p_this_hitPass p_this_hitNozzle p_this_hitPrints p_this_canMany p_this_printedBy p_this_missing p_this_prints p_this_gutter p_this_able p_this_planRow p_this_seenLine p_this_seenMany p_this_missedBy p_this_isThere p_this_forms p_this_sizes p_this_items p_this_moved : Nat) (f_this_events : Int32) (f_this_allMissed : Int32) (f_this_allWanted : Int32) (f_this_allPrinted : Int32) (f_this_seens : Int32) (f_this_finding : Int32) (f_this_notEvents : Int32) (f_this_deadNow : Int32) (c_this_told : Nat → Int32) (c_this_head : Nat → Int32) (c_this_dots : Nat → Int32) (c_this_now : Nat → Int32) (post : (Int32 × Int32 × (Nat → Int32) × (Nat → Int32)) → Prop) (h : wp_X4_asTold f_this_notEvents f_this_deadNow c_this_told c_this_head c_this_dots c_this_now post) : jmv l yX4_asTold wsX4_asTold { frames := 0, cells := 0, slots := 0, locals := 0 } G [.ref p_this] [job p_this 4 [.ref p_this_told, .ref p_this_head, .int f_this_events, .ref p_this_eventKind, .ref p_this_eventAt, .ref p_this_eventNozzle, .ref p_this_dots, .ref p_this_now, .int f_this_notEvents, .int f_this_deadNow, .ref p_this_hitMany, .ref p_this_hitPass, .ref p_this_hitNozzle, .ref p_this_hitPrints, .ref p_this_canMany, .ref p_this_printedBy, .ref p_this_missing, .ref p_this_prints, .ref p_this_gutter, .int f_this_allMissed, .int f_this_allWanted, .int f_this_allPrinted, .ref p_this_able, .ref p_this_planRow, .int f_this_seens, .ref p_this_seenLine, .ref p_this_seenMany, .ref p_this_missedBy, .ref p_this_isThere, .ref p_this_forms, .ref p_this_sizes, .ref p_this_items, .ref p_this_moved, .int f_this_finding], jai G p_this_told 16 c_this_told, jai G p_this_head 9 c_this_head, jai G p_this_dots 16 c_this_dots, jai G p_this_now 9 c_this_now] (fun u : Int32 × Int32 × (Nat → Int32) × (Nat → Int32) => [job p_this 4 [.ref p_this_told, .ref p_this_head, .int f_this_events, .ref p_this_eventKind, .ref p_this_eventAt, .ref p_this_eventNozzle, .ref p_this_dots, .ref p_this_now, .int u.1, .int u.2.1, .ref p_this_hitMany, .ref p_this_hitPass, .ref p_this_hitNozzle, .ref p_this_hitPrints, .ref p_this_canMany, .ref p_this_printedBy, .ref p_this_missing, .ref p_this_prints, .ref p_this_gutter, .int f_this_allMissed, .int f_this_allWanted, .int f_this_allPrinted, .ref p_this_able, .ref p_this_planRow, .int f_this_seens, .ref p_this_seenLine, .ref p_this_seenMany, .ref p_this_missedBy, .ref p_this_isThere, .ref p_this_forms, .ref p_this_sizes, .ref p_this_items, .ref p_this_moved, .int f_this_finding], jai G p_this_told 16 c_this_told, jai G p_this_head 9 c_this_head, jai G p_this_dots 16 u.2.2.1, jai G p_this_now 9 u.2.2.2]) post 0 0 := by
  refine jm_v (cc := cX4_asTold) (maxL := 2) (by decide) rfl (Nat.le_of_ble_eq_true rfl) ?_
  intro k A hk hin hret
  unfold wp_X4_asTold at h
  have hiX4 : ∀ w ∈ u_ws RX4 TX4 34, w ∈ wsX4_asTold := (fun w h => List.mem_cons_of_mem _ (List.mem_append_right _ h))
  show jx k G A 2 0 0 [job p_this 4 [.ref p_this_told, .ref p_this_head, .int f_this_events, .ref p_this_eventKind, .ref p_this_eventAt, .ref p_this_eventNozzle, .ref p_this_dots, .ref p_this_now, .int f_this_notEvents, .int f_this_deadNow, .ref p_this_hitMany, .ref p_this_hitPass, .ref p_this_hitNozzle, .ref p_this_hitPrints, .ref p_this_canMany, .ref p_this_printedBy, .ref p_this_missing, .ref p_this_prints, .ref p_this_gutter, .int f_this_allMissed, .int f_this_allWanted, .int f_this_allPrinted, .ref p_this_able, .ref p_this_planRow, .int f_this_seens, .ref p_this_seenLine, .ref p_this_seenMany, .ref p_this_missedBy, .ref p_this_isThere, .ref p_this_forms, .ref p_this_sizes, .ref p_this_items, .ref p_this_moved, .int f_this_finding], jai G p_this_told 16 c_this_told, jai G p_this_head 9 c_this_head, jai G p_this_dots 16 c_this_dots, jai G p_this_now 9 c_this_now] 0 [(0, .ref p_this)] []
  refine jx_iconst (v := 0) hk dX4_asTold_0 (by decide) ?_
  refine jx_istore_n (lv' := [(1, .int (0 : Int32)), (0, .ref p_this)]) hk dX4_asTold_1 rfl (by decide) rfl ?_
  obtain ⟨n27, h⟩ := h
  have L2 : ∀ (Ke_26 : (Nat → Int32) → Prop), (∀ (d15 : Nat → Int32), Ke_26 d15 → jx k G A 2 0 0 [job p_this 4 [.ref p_this_told, .ref p_this_head, .int f_this_events, .ref p_this_eventKind, .ref p_this_eventAt, .ref p_this_eventNozzle, .ref p_this_dots, .ref p_this_now, .int f_this_notEvents, .int f_this_deadNow, .ref p_this_hitMany, .ref p_this_hitPass, .ref p_this_hitNozzle, .ref p_this_hitPrints, .ref p_this_canMany, .ref p_this_printedBy, .ref p_this_missing, .ref p_this_prints, .ref p_this_gutter, .int f_this_allMissed, .int f_this_allWanted, .int f_this_allPrinted, .ref p_this_able, .ref p_this_planRow, .int f_this_seens, .ref p_this_seenLine, .ref p_this_seenMany, .ref p_this_missedBy, .ref p_this_isThere, .ref p_this_forms, .ref p_this_sizes, .ref p_this_items, .ref p_this_moved, .int f_this_finding], jai G p_this_told 16 c_this_told, jai G p_this_head 9 c_this_head, jai G p_this_dots 16 d15, jai G p_this_now 9 c_this_now] 26 [(0, .ref p_this)] []) → ∀ (n : Nat) (i28 : Int32) (w29 : Nat → Int32), wq_X4_asTold_2 c_this_told c_this_head f_this_notEvents f_this_deadNow c_this_now post Ke_26 n i28 w29 → jx k G A 2 0 0 [job p_this 4 [.ref p_this_told, .ref p_this_head, .int f_this_events, .ref p_this_eventKind, .ref p_this_eventAt, .ref p_this_eventNozzle, .ref p_this_dots, .ref p_this_now, .int f_this_notEvents, .int f_this_deadNow, .ref p_this_hitMany, .ref p_this_hitPass, .ref p_this_hitNozzle, .ref p_this_hitPrints, .ref p_this_canMany, .ref p_this_printedBy, .ref p_this_missing, .ref p_this_prints, .ref p_this_gutter, .int f_this_allMissed, .int f_this_allWanted, .int f_this_allPrinted, .ref p_this_able, .ref p_this_planRow, .int f_this_seens, .ref p_this_seenLine, .ref p_this_seenMany, .ref p_this_missedBy, .ref p_this_isThere, .ref p_this_forms, .ref p_this_sizes, .ref p_this_items, .ref p_this_moved, .int f_this_finding], jai G p_this_told 16 c_this_told, jai G p_this_head 9 c_this_head, jai G p_this_dots 16 w29, jai G p_this_now 9 c_this_now] 2 [(0, .ref p_this), (1, .int i28)] [] := by
    intro Ke_26 hE_26 n
    induction n with
    | zero =>
      intro _ _ h
      exact h.elim
    | succ n ih =>
      intro i28 w29 h
      unfold wq_X4_asTold_2 at h
      refine jx_iload_n hk dX4_asTold_2 rfl 1 rfl ?_
      refine jx_bipush (v := 16) hk dX4_asTold_3 (by decide) ?_
      refine jx_icmp_ge (tgt := 26) hk dX4_asTold_5 (by decide) (fun c30 => ?_) (fun c30 => ?_)
      · replace h := h.1 c30
        refine jx_lvs (lv' := [(0, .ref p_this)]) [0] rfl ?_
        exact hE_26 _ h
      · replace h := h.2 c30
        refine jx_aload_n hk dX4_asTold_8 rfl 0 rfl ?_
        refine jx_get (C := RX4) (T := TX4) (N := 34) (ci := 4) (v := .ref p_this_dots) hk hiX4 0 rfl rfl 6 (by decide) (List.mem_of_getElem? (i := 1) rfl) rfl dX4_asTold_9 ?_
        refine jx_iload_n hk dX4_asTold_12 rfl 1 rfl ?_
        refine jx_aload_n hk dX4_asTold_13 rfl 0 rfl ?_
        refine jx_get (C := RX4) (T := TX4) (N := 34) (ci := 4) (v := .ref p_this_told) hk hiX4 0 rfl rfl 0 (by decide) (List.mem_of_getElem? (i := 2) rfl) rfl dX4_asTold_14 ?_
        refine jx_iload_n hk dX4_asTold_17 rfl 1 rfl ?_
        obtain ⟨b31, h⟩ := h
        refine jx_iaload hk dX4_asTold_18 1 rfl b31 ?_
        refine jx_topi (fun v32 e33 => ?_)
        replace h := h v32 e33
        obtain ⟨b34, h⟩ := h
        refine jx_iastore (ws' := [job p_this 4 [.ref p_this_told, .ref p_this_head, .int f_this_events, .ref p_this_eventKind, .ref p_this_eventAt, .ref p_this_eventNozzle, .ref p_this_dots, .ref p_this_now, .int f_this_notEvents, .int f_this_deadNow, .ref p_this_hitMany, .ref p_this_hitPass, .ref p_this_hitNozzle, .ref p_this_hitPrints, .ref p_this_canMany, .ref p_this_printedBy, .ref p_this_missing, .ref p_this_prints, .ref p_this_gutter, .int f_this_allMissed, .int f_this_allWanted, .int f_this_allPrinted, .ref p_this_able, .ref p_this_planRow, .int f_this_seens, .ref p_this_seenLine, .ref p_this_seenMany, .ref p_this_missedBy, .ref p_this_isThere, .ref p_this_forms, .ref p_this_sizes, .ref p_this_items, .ref p_this_moved, .int f_this_finding], jai G p_this_told 16 c_this_told, jai G p_this_head 9 c_this_head, jai G p_this_dots 16 (upd w29 i28.toNatClampNeg v32), jai G p_this_now 9 c_this_now]) hk dX4_asTold_19 3 rfl b34 rfl ?_
        refine jx_iincN (lvf := fun vq => [(1, .int vq), (0, .ref p_this)]) (c := 1) hk dX4_asTold_20 1 rfl (by decide) (by decide) (fun _ => rfl) (fun v35 e36 => ?_)
        replace h := h v35 e36
        refine jx_goto (tgt := 2) hk dX4_asTold_23 (by decide) ?_
        refine jx_lvs (lv' := [(0, .ref p_this), (1, .int v35)]) [1, 0] rfl ?_
        exact ih _ _ h
  refine jx_lvs (lv' := [(0, .ref p_this), (1, .int (0 : Int32))]) [1, 0] rfl ?_
  refine L2 _ ?_ n27 _ _ h
  intro d15 h
  refine jx_iconst (v := 0) hk dX4_asTold_26 (by decide) ?_
  refine jx_istore_n (lv' := [(1, .int (0 : Int32)), (0, .ref p_this)]) hk dX4_asTold_27 rfl (by decide) rfl ?_
  obtain ⟨n17, h⟩ := h
  have L28 : ∀ (Ke_52 : (Nat → Int32) → Prop), (∀ (d16 : Nat → Int32), Ke_52 d16 → jx k G A 2 0 0 [job p_this 4 [.ref p_this_told, .ref p_this_head, .int f_this_events, .ref p_this_eventKind, .ref p_this_eventAt, .ref p_this_eventNozzle, .ref p_this_dots, .ref p_this_now, .int f_this_notEvents, .int f_this_deadNow, .ref p_this_hitMany, .ref p_this_hitPass, .ref p_this_hitNozzle, .ref p_this_hitPrints, .ref p_this_canMany, .ref p_this_printedBy, .ref p_this_missing, .ref p_this_prints, .ref p_this_gutter, .int f_this_allMissed, .int f_this_allWanted, .int f_this_allPrinted, .ref p_this_able, .ref p_this_planRow, .int f_this_seens, .ref p_this_seenLine, .ref p_this_seenMany, .ref p_this_missedBy, .ref p_this_isThere, .ref p_this_forms, .ref p_this_sizes, .ref p_this_items, .ref p_this_moved, .int f_this_finding], jai G p_this_told 16 c_this_told, jai G p_this_head 9 c_this_head, jai G p_this_dots 16 d15, jai G p_this_now 9 d16] 52 [(0, .ref p_this)] []) → ∀ (n : Nat) (i18 : Int32) (w19 : Nat → Int32), wq_X4_asTold_28 c_this_told c_this_head f_this_notEvents f_this_deadNow d15 post Ke_52 n i18 w19 → jx k G A 2 0 0 [job p_this 4 [.ref p_this_told, .ref p_this_head, .int f_this_events, .ref p_this_eventKind, .ref p_this_eventAt, .ref p_this_eventNozzle, .ref p_this_dots, .ref p_this_now, .int f_this_notEvents, .int f_this_deadNow, .ref p_this_hitMany, .ref p_this_hitPass, .ref p_this_hitNozzle, .ref p_this_hitPrints, .ref p_this_canMany, .ref p_this_printedBy, .ref p_this_missing, .ref p_this_prints, .ref p_this_gutter, .int f_this_allMissed, .int f_this_allWanted, .int f_this_allPrinted, .ref p_this_able, .ref p_this_planRow, .int f_this_seens, .ref p_this_seenLine, .ref p_this_seenMany, .ref p_this_missedBy, .ref p_this_isThere, .ref p_this_forms, .ref p_this_sizes, .ref p_this_items, .ref p_this_moved, .int f_this_finding], jai G p_this_told 16 c_this_told, jai G p_this_head 9 c_this_head, jai G p_this_dots 16 d15, jai G p_this_now 9 w19] 28 [(0, .ref p_this), (1, .int i18)] [] := by
    intro Ke_52 hE_52 n
    induction n with
    | zero =>
      intro _ _ h
      exact h.elim
    | succ n ih =>
      intro i18 w19 h
      unfold wq_X4_asTold_28 at h
      refine jx_iload_n hk dX4_asTold_28 rfl 1 rfl ?_
      refine jx_bipush (v := 9) hk dX4_asTold_29 (by decide) ?_
      refine jx_icmp_ge (tgt := 52) hk dX4_asTold_31 (by decide) (fun c20 => ?_) (fun c20 => ?_)
      · replace h := h.1 c20
        refine jx_lvs (lv' := [(0, .ref p_this)]) [0] rfl ?_
        exact hE_52 _ h
      · replace h := h.2 c20
        refine jx_aload_n hk dX4_asTold_34 rfl 0 rfl ?_
        refine jx_get (C := RX4) (T := TX4) (N := 34) (ci := 4) (v := .ref p_this_now) hk hiX4 0 rfl rfl 7 (by decide) (List.mem_of_getElem? (i := 3) rfl) rfl dX4_asTold_35 ?_
        refine jx_iload_n hk dX4_asTold_38 rfl 1 rfl ?_
        refine jx_aload_n hk dX4_asTold_39 rfl 0 rfl ?_
        refine jx_get (C := RX4) (T := TX4) (N := 34) (ci := 4) (v := .ref p_this_head) hk hiX4 0 rfl rfl 1 (by decide) (List.mem_of_getElem? (i := 4) rfl) rfl dX4_asTold_40 ?_
        refine jx_iload_n hk dX4_asTold_43 rfl 1 rfl ?_
        obtain ⟨b21, h⟩ := h
        refine jx_iaload hk dX4_asTold_44 2 rfl b21 ?_
        refine jx_topi (fun v22 e23 => ?_)
        replace h := h v22 e23
        obtain ⟨b24, h⟩ := h
        refine jx_iastore (ws' := [job p_this 4 [.ref p_this_told, .ref p_this_head, .int f_this_events, .ref p_this_eventKind, .ref p_this_eventAt, .ref p_this_eventNozzle, .ref p_this_dots, .ref p_this_now, .int f_this_notEvents, .int f_this_deadNow, .ref p_this_hitMany, .ref p_this_hitPass, .ref p_this_hitNozzle, .ref p_this_hitPrints, .ref p_this_canMany, .ref p_this_printedBy, .ref p_this_missing, .ref p_this_prints, .ref p_this_gutter, .int f_this_allMissed, .int f_this_allWanted, .int f_this_allPrinted, .ref p_this_able, .ref p_this_planRow, .int f_this_seens, .ref p_this_seenLine, .ref p_this_seenMany, .ref p_this_missedBy, .ref p_this_isThere, .ref p_this_forms, .ref p_this_sizes, .ref p_this_items, .ref p_this_moved, .int f_this_finding], jai G p_this_told 16 c_this_told, jai G p_this_head 9 c_this_head, jai G p_this_dots 16 d15, jai G p_this_now 9 (upd w19 i18.toNatClampNeg v22)]) hk dX4_asTold_45 4 rfl b24 rfl ?_
        refine jx_iincN (lvf := fun vq => [(1, .int vq), (0, .ref p_this)]) (c := 1) hk dX4_asTold_46 1 rfl (by decide) (by decide) (fun _ => rfl) (fun v25 e26 => ?_)
        replace h := h v25 e26
        refine jx_goto (tgt := 28) hk dX4_asTold_49 (by decide) ?_
        refine jx_lvs (lv' := [(0, .ref p_this), (1, .int v25)]) [1, 0] rfl ?_
        exact ih _ _ h
  refine jx_lvs (lv' := [(0, .ref p_this), (1, .int (0 : Int32))]) [1, 0] rfl ?_
  refine L28 _ ?_ n17 _ _ h
  intro d16 h
  refine jx_aload_n hk dX4_asTold_52 rfl 0 rfl ?_
  refine jx_iconst (v := 0) hk dX4_asTold_53 (by decide) ?_
  refine jx_put (C := RX4) (T := TX4) (N := 34) (ci := 4) (v := .int (0 : Int32)) (ty := .int) (ws' := [job p_this 4 [.ref p_this_told, .ref p_this_head, .int f_this_events, .ref p_this_eventKind, .ref p_this_eventAt, .ref p_this_eventNozzle, .ref p_this_dots, .ref p_this_now, .int (0 : Int32), .int f_this_deadNow, .ref p_this_hitMany, .ref p_this_hitPass, .ref p_this_hitNozzle, .ref p_this_hitPrints, .ref p_this_canMany, .ref p_this_printedBy, .ref p_this_missing, .ref p_this_prints, .ref p_this_gutter, .int f_this_allMissed, .int f_this_allWanted, .int f_this_allPrinted, .ref p_this_able, .ref p_this_planRow, .int f_this_seens, .ref p_this_seenLine, .ref p_this_seenMany, .ref p_this_missedBy, .ref p_this_isThere, .ref p_this_forms, .ref p_this_sizes, .ref p_this_items, .ref p_this_moved, .int f_this_finding], jai G p_this_told 16 c_this_told, jai G p_this_head 9 c_this_head, jai G p_this_dots 16 d15, jai G p_this_now 9 d16]) hk hiX4 tyX4 tyX4_ok nmX4 0 rfl rfl 8 (by decide) (List.mem_of_getElem? (i := 5) rfl) rfl (tyX4_ok 8 (by decide)) rfl rfl (Nat.le_of_ble_eq_true rfl) dX4_asTold_54 rfl ?_
  refine jx_aload_n hk dX4_asTold_57 rfl 0 rfl ?_
  refine jx_iconst (v := (-1)) hk dX4_asTold_58 (by decide) ?_
  refine jx_put (C := RX4) (T := TX4) (N := 34) (ci := 4) (v := .int (-1 : Int32)) (ty := .int) (ws' := [job p_this 4 [.ref p_this_told, .ref p_this_head, .int f_this_events, .ref p_this_eventKind, .ref p_this_eventAt, .ref p_this_eventNozzle, .ref p_this_dots, .ref p_this_now, .int (0 : Int32), .int (-1 : Int32), .ref p_this_hitMany, .ref p_this_hitPass, .ref p_this_hitNozzle, .ref p_this_hitPrints, .ref p_this_canMany, .ref p_this_printedBy, .ref p_this_missing, .ref p_this_prints, .ref p_this_gutter, .int f_this_allMissed, .int f_this_allWanted, .int f_this_allPrinted, .ref p_this_able, .ref p_this_planRow, .int f_this_seens, .ref p_this_seenLine, .ref p_this_seenMany, .ref p_this_missedBy, .ref p_this_isThere, .ref p_this_forms, .ref p_this_sizes, .ref p_this_items, .ref p_this_moved, .int f_this_finding], jai G p_this_told 16 c_this_told, jai G p_this_head 9 c_this_head, jai G p_this_dots 16 d15, jai G p_this_now 9 d16]) hk hiX4 tyX4 tyX4_ok nmX4 0 rfl rfl 9 (by decide) (List.mem_of_getElem? (i := 6) rfl) rfl (tyX4_ok 9 (by decide)) rfl rfl (Nat.le_of_ble_eq_true rfl) dX4_asTold_59 rfl ?_
  exact hret ((0 : Int32), (-1 : Int32), d15, d16) _ _ dX4_asTold_62 h
set_option maxHeartbeats 4000000 in
set_option maxRecDepth 100000 in
theorem c_X4_isAlive (l : Launch) (G : jG) (p_this p_this_told p_this_head p_this_eventKind p_this_eventAt p_this_eventNozzle p_this_dots p_this_now p_this_hitMany p_this_hitPass p_this_hitNozzle p_this_hitPrints p_this_canMany p_this_printedBy p_this_missing p_this_prints p_this_gutter p_this_able p_this_planRow p_this_seenLine p_this_seenMany p_this_missedBy p_this_isThere p_this_forms p_this_sizes p_this_items p_this_moved : Nat) (f_this_allMissed : Int32) (f_this_allWanted : Int32) (f_this_allPrinted : Int32) (f_this_seens : Int32) (f_this_finding : Int32) (f_this_events : Int32) (f_this_notEvents : Int32) (f_this_deadNow : Int32) (c_this_eventKind : Nat → Int32) (c_this_eventAt : Nat → Int32) (c_this_eventNozzle : Nat → Int32) (x1 : Int32) (x2 : Int32) (post : Int32 → Unit → Prop) (h : wp_X4_isAlive x1 x2 f_this_events f_this_notEvents f_this_deadNow c_this_eventKind c_this_eventAt c_this_eventNozzle post) : jmi l yX4_isAlive wsX4_isAlive { frames := 1, cells := 0, slots := 0, locals := 21 } G [.ref p_this, .int x1, .int x2] [job p_this 4 [.ref p_this_told, .ref p_this_head, .int f_this_events, .ref p_this_eventKind, .ref p_this_eventAt, .ref p_this_eventNozzle, .ref p_this_dots, .ref p_this_now, .int f_this_notEvents, .int f_this_deadNow, .ref p_this_hitMany, .ref p_this_hitPass, .ref p_this_hitNozzle, .ref p_this_hitPrints, .ref p_this_canMany, .ref p_this_printedBy, .ref p_this_missing, .ref p_this_prints, .ref p_this_gutter, .int f_this_allMissed, .int f_this_allWanted, .int f_this_allPrinted, .ref p_this_able, .ref p_this_planRow, .int f_this_seens, .ref p_this_seenLine, .ref p_this_seenMany, .ref p_this_missedBy, .ref p_this_isThere, .ref p_this_forms, .ref p_this_sizes, .ref p_this_items, .ref p_this_moved, .int f_this_finding], jai G p_this_eventKind 8 c_this_eventKind, jai G p_this_eventAt 8 c_this_eventAt, jai G p_this_eventNozzle 8 c_this_eventNozzle] (fun u : Unit => [job p_this 4 [.ref p_this_told, .ref p_this_head, .int f_this_events, .ref p_this_eventKind, .ref p_this_eventAt, .ref p_this_eventNozzle, .ref p_this_dots, .ref p_this_now, .int f_this_notEvents, .int f_this_deadNow, .ref p_this_hitMany, .ref p_this_hitPass, .ref p_this_hitNozzle, .ref p_this_hitPrints, .ref p_this_canMany, .ref p_this_printedBy, .ref p_this_missing, .ref p_this_prints, .ref p_this_gutter, .int f_this_allMissed, .int f_this_allWanted, .int f_this_allPrinted, .ref p_this_able, .ref p_this_planRow, .int f_this_seens, .ref p_this_seenLine, .ref p_this_seenMany, .ref p_this_missedBy, .ref p_this_isThere, .ref p_this_forms, .ref p_this_sizes, .ref p_this_items, .ref p_this_moved, .int f_this_finding], jai G p_this_eventKind 8 c_this_eventKind, jai G p_this_eventAt 8 c_this_eventAt, jai G p_this_eventNozzle 8 c_this_eventNozzle]) post 0 0 := by
  refine jm_z (cc := cX4_isAlive) (maxL := 6) (by decide) rfl (Nat.le_of_ble_eq_true rfl) ?_
  intro k A hk hin hret
  unfold wp_X4_isAlive at h
  have hiX4 : ∀ w ∈ u_ws RX4 TX4 34, w ∈ wsX4_isAlive := (fun w h => List.mem_cons_of_mem _ (List.mem_append_right _ h))
  show jx k G A 6 0 0 [job p_this 4 [.ref p_this_told, .ref p_this_head, .int f_this_events, .ref p_this_eventKind, .ref p_this_eventAt, .ref p_this_eventNozzle, .ref p_this_dots, .ref p_this_now, .int f_this_notEvents, .int f_this_deadNow, .ref p_this_hitMany, .ref p_this_hitPass, .ref p_this_hitNozzle, .ref p_this_hitPrints, .ref p_this_canMany, .ref p_this_printedBy, .ref p_this_missing, .ref p_this_prints, .ref p_this_gutter, .int f_this_allMissed, .int f_this_allWanted, .int f_this_allPrinted, .ref p_this_able, .ref p_this_planRow, .int f_this_seens, .ref p_this_seenLine, .ref p_this_seenMany, .ref p_this_missedBy, .ref p_this_isThere, .ref p_this_forms, .ref p_this_sizes, .ref p_this_items, .ref p_this_moved, .int f_this_finding], jai G p_this_eventKind 8 c_this_eventKind, jai G p_this_eventAt 8 c_this_eventAt, jai G p_this_eventNozzle 8 c_this_eventNozzle] 0 [(0, .ref p_this), (1, .int x1), (2, .int x2)] []
  refine jx_iconst (v := (-1)) hk dX4_isAlive_0 (by decide) ?_
  refine jx_istore_n (lv' := [(3, .int (-1 : Int32)), (0, .ref p_this), (1, .int x1), (2, .int x2)]) hk dX4_isAlive_1 rfl (by decide) rfl ?_
  refine jx_iconst (v := 0) hk dX4_isAlive_2 (by decide) ?_
  refine jx_istore (lv' := [(4, .int (0 : Int32)), (3, .int (-1 : Int32)), (0, .ref p_this), (1, .int x1), (2, .int x2)]) hk dX4_isAlive_3 (by decide) rfl ?_
  obtain ⟨n35, h⟩ := h
  have L5 : ∀ (Ke_94 : Int32 → Prop), (∀ (e28 : Int32), Ke_94 e28 → jx k G A 6 0 0 [job p_this 4 [.ref p_this_told, .ref p_this_head, .int f_this_events, .ref p_this_eventKind, .ref p_this_eventAt, .ref p_this_eventNozzle, .ref p_this_dots, .ref p_this_now, .int f_this_notEvents, .int f_this_deadNow, .ref p_this_hitMany, .ref p_this_hitPass, .ref p_this_hitNozzle, .ref p_this_hitPrints, .ref p_this_canMany, .ref p_this_printedBy, .ref p_this_missing, .ref p_this_prints, .ref p_this_gutter, .int f_this_allMissed, .int f_this_allWanted, .int f_this_allPrinted, .ref p_this_able, .ref p_this_planRow, .int f_this_seens, .ref p_this_seenLine, .ref p_this_seenMany, .ref p_this_missedBy, .ref p_this_isThere, .ref p_this_forms, .ref p_this_sizes, .ref p_this_items, .ref p_this_moved, .int f_this_finding], jai G p_this_eventKind 8 c_this_eventKind, jai G p_this_eventAt 8 c_this_eventAt, jai G p_this_eventNozzle 8 c_this_eventNozzle] 94 [(0, .ref p_this), (2, .int x2), (3, .int e28)] []) → ∀ (n : Nat) (i36 : Int32) (i37 : Int32), wq_X4_isAlive_5 f_this_events f_this_notEvents f_this_deadNow c_this_eventKind c_this_eventAt c_this_eventNozzle x1 x2 post Ke_94 n i36 i37 → jx k G A 6 0 0 [job p_this 4 [.ref p_this_told, .ref p_this_head, .int f_this_events, .ref p_this_eventKind, .ref p_this_eventAt, .ref p_this_eventNozzle, .ref p_this_dots, .ref p_this_now, .int f_this_notEvents, .int f_this_deadNow, .ref p_this_hitMany, .ref p_this_hitPass, .ref p_this_hitNozzle, .ref p_this_hitPrints, .ref p_this_canMany, .ref p_this_printedBy, .ref p_this_missing, .ref p_this_prints, .ref p_this_gutter, .int f_this_allMissed, .int f_this_allWanted, .int f_this_allPrinted, .ref p_this_able, .ref p_this_planRow, .int f_this_seens, .ref p_this_seenLine, .ref p_this_seenMany, .ref p_this_missedBy, .ref p_this_isThere, .ref p_this_forms, .ref p_this_sizes, .ref p_this_items, .ref p_this_moved, .int f_this_finding], jai G p_this_eventKind 8 c_this_eventKind, jai G p_this_eventAt 8 c_this_eventAt, jai G p_this_eventNozzle 8 c_this_eventNozzle] 5 [(0, .ref p_this), (1, .int x1), (2, .int x2), (3, .int i36), (4, .int i37)] [] := by
    intro Ke_94 hE_94 n
    induction n with
    | zero =>
      intro _ _ h
      exact h.elim
    | succ n ih =>
      intro i36 i37 h
      unfold wq_X4_isAlive_5 at h
      have J53 : ∀ (y38 : Int32) (y39 : Int32) (z40 : Int32), wq_X4_isAlive_53 f_this_events f_this_notEvents f_this_deadNow c_this_eventKind c_this_eventAt c_this_eventNozzle x1 x2 post (wq_X4_isAlive_5 f_this_events f_this_notEvents f_this_deadNow c_this_eventKind c_this_eventAt c_this_eventNozzle x1 x2 post Ke_94 n) Ke_94 y38 y39 z40 → jx k G A 6 0 0 [job p_this 4 [.ref p_this_told, .ref p_this_head, .int f_this_events, .ref p_this_eventKind, .ref p_this_eventAt, .ref p_this_eventNozzle, .ref p_this_dots, .ref p_this_now, .int f_this_notEvents, .int f_this_deadNow, .ref p_this_hitMany, .ref p_this_hitPass, .ref p_this_hitNozzle, .ref p_this_hitPrints, .ref p_this_canMany, .ref p_this_printedBy, .ref p_this_missing, .ref p_this_prints, .ref p_this_gutter, .int f_this_allMissed, .int f_this_allWanted, .int f_this_allPrinted, .ref p_this_able, .ref p_this_planRow, .int f_this_seens, .ref p_this_seenLine, .ref p_this_seenMany, .ref p_this_missedBy, .ref p_this_isThere, .ref p_this_forms, .ref p_this_sizes, .ref p_this_items, .ref p_this_moved, .int f_this_finding], jai G p_this_eventKind 8 c_this_eventKind, jai G p_this_eventAt 8 c_this_eventAt, jai G p_this_eventNozzle 8 c_this_eventNozzle] 53 [(0, .ref p_this), (1, .int x1), (2, .int x2), (3, .int y38), (4, .int y39)] [.int z40] := by
        intro y38 y39 z40 h
        unfold wq_X4_isAlive_53 at h
        refine jx_istore (lv' := [(5, .int z40), (0, .ref p_this), (1, .int x1), (2, .int x2), (3, .int y38), (4, .int y39)]) hk dX4_isAlive_53 (by decide) rfl ?_
        refine jx_iload hk dX4_isAlive_55 0 rfl ?_
        refine jx_if_eq (tgt := 86) hk dX4_isAlive_57 (by decide) (fun c41 => ?_) (fun c41 => ?_)
        · replace h := h.1 c41
          refine jx_iload_n hk dX4_isAlive_86 rfl 4 rfl ?_
          refine jx_istore_n (lv' := [(3, .int y38), (5, .int z40), (0, .ref p_this), (1, .int x1), (2, .int x2), (4, .int y39)]) hk dX4_isAlive_87 rfl (by decide) rfl ?_
          refine jx_iincN (lvf := fun vq => [(4, .int vq), (3, .int y38), (5, .int z40), (0, .ref p_this), (1, .int x1), (2, .int x2)]) (c := 1) hk dX4_isAlive_88 5 rfl (by decide) (by decide) (fun _ => rfl) (fun v42 e43 => ?_)
          replace h := h v42 e43
          refine jx_goto (tgt := 5) hk dX4_isAlive_91 (by decide) ?_
          refine jx_lvs (lv' := [(0, .ref p_this), (1, .int x1), (2, .int x2), (3, .int y38), (4, .int v42)]) [3, 4, 5, 1, 0] rfl ?_
          exact ih _ _ h
        · replace h := h.2 c41
          refine jx_iload_n hk dX4_isAlive_60 rfl 4 rfl ?_
          refine jx_iconst (v := (-1)) hk dX4_isAlive_61 (by decide) ?_
          refine jx_icmp_eq (tgt := 81) hk dX4_isAlive_62 (by decide) (fun c44 => ?_) (fun c44 => ?_)
          · replace h := h.1 c44
            refine jx_iload hk dX4_isAlive_81 5 rfl ?_
            refine jx_goto (tgt := 87) hk dX4_isAlive_83 (by decide) ?_
            refine jx_istore_n (lv' := [(3, .int y39), (5, .int z40), (0, .ref p_this), (1, .int x1), (2, .int x2), (4, .int y39)]) hk dX4_isAlive_87 rfl (by decide) rfl ?_
            refine jx_iincN (lvf := fun vq => [(4, .int vq), (3, .int y39), (5, .int z40), (0, .ref p_this), (1, .int x1), (2, .int x2)]) (c := 1) hk dX4_isAlive_88 5 rfl (by decide) (by decide) (fun _ => rfl) (fun v45 e46 => ?_)
            replace h := h v45 e46
            refine jx_goto (tgt := 5) hk dX4_isAlive_91 (by decide) ?_
            refine jx_lvs (lv' := [(0, .ref p_this), (1, .int x1), (2, .int x2), (3, .int y39), (4, .int v45)]) [3, 4, 5, 1, 0] rfl ?_
            exact ih _ _ h
          · replace h := h.2 c44
            refine jx_aload_n hk dX4_isAlive_65 rfl 1 rfl ?_
            refine jx_get (C := RX4) (T := TX4) (N := 34) (ci := 4) (v := .ref p_this_eventAt) hk hiX4 0 rfl rfl 4 (by decide) (List.mem_of_getElem? (i := 3) rfl) rfl dX4_isAlive_66 ?_
            refine jx_iload hk dX4_isAlive_69 5 rfl ?_
            obtain ⟨b47, h⟩ := h
            refine jx_iaload hk dX4_isAlive_71 2 rfl b47 ?_
            refine jx_topi (fun v48 e49 => ?_)
            replace h := h v48 e49
            refine jx_aload_n hk dX4_isAlive_72 rfl 1 rfl ?_
            refine jx_get (C := RX4) (T := TX4) (N := 34) (ci := 4) (v := .ref p_this_eventAt) hk hiX4 0 rfl rfl 4 (by decide) (List.mem_of_getElem? (i := 3) rfl) rfl dX4_isAlive_73 ?_
            refine jx_iload_n hk dX4_isAlive_76 rfl 4 rfl ?_
            obtain ⟨b50, h⟩ := h
            refine jx_iaload hk dX4_isAlive_77 2 rfl b50 ?_
            refine jx_icmp_lt (tgt := 86) hk dX4_isAlive_78 (by decide) (fun c51 => ?_) (fun c51 => ?_)
            · replace h := h.1 c51
              refine jx_iload_n hk dX4_isAlive_86 rfl 4 rfl ?_
              refine jx_istore_n (lv' := [(3, .int y38), (5, .int z40), (0, .ref p_this), (1, .int x1), (2, .int x2), (4, .int y39)]) hk dX4_isAlive_87 rfl (by decide) rfl ?_
              refine jx_iincN (lvf := fun vq => [(4, .int vq), (3, .int y38), (5, .int z40), (0, .ref p_this), (1, .int x1), (2, .int x2)]) (c := 1) hk dX4_isAlive_88 5 rfl (by decide) (by decide) (fun _ => rfl) (fun v52 e53 => ?_)
              replace h := h v52 e53
              refine jx_goto (tgt := 5) hk dX4_isAlive_91 (by decide) ?_
              refine jx_lvs (lv' := [(0, .ref p_this), (1, .int x1), (2, .int x2), (3, .int y38), (4, .int v52)]) [3, 4, 5, 1, 0] rfl ?_
              exact ih _ _ h
            · replace h := h.2 c51
              refine jx_iload hk dX4_isAlive_81 5 rfl ?_
              refine jx_goto (tgt := 87) hk dX4_isAlive_83 (by decide) ?_
              refine jx_istore_n (lv' := [(3, .int y39), (5, .int z40), (0, .ref p_this), (1, .int x1), (2, .int x2), (4, .int y39)]) hk dX4_isAlive_87 rfl (by decide) rfl ?_
              refine jx_iincN (lvf := fun vq => [(4, .int vq), (3, .int y39), (5, .int z40), (0, .ref p_this), (1, .int x1), (2, .int x2)]) (c := 1) hk dX4_isAlive_88 5 rfl (by decide) (by decide) (fun _ => rfl) (fun v54 e55 => ?_)
              replace h := h v54 e55
              refine jx_goto (tgt := 5) hk dX4_isAlive_91 (by decide) ?_
              refine jx_lvs (lv' := [(0, .ref p_this), (1, .int x1), (2, .int x2), (3, .int y39), (4, .int v54)]) [3, 4, 5, 1, 0] rfl ?_
              exact ih _ _ h
      refine jx_iload hk dX4_isAlive_5 4 rfl ?_
      refine jx_aload_n hk dX4_isAlive_7 rfl 0 rfl ?_
      refine jx_get (C := RX4) (T := TX4) (N := 34) (ci := 4) (v := .int f_this_events) hk hiX4 0 rfl rfl 2 (by decide) (List.mem_of_getElem? (i := 1) rfl) rfl dX4_isAlive_8 ?_
      refine jx_icmp_ge (tgt := 94) hk dX4_isAlive_11 (by decide) (fun c56 => ?_) (fun c56 => ?_)
      · replace h := h.1 c56
        refine jx_lvs (lv' := [(0, .ref p_this), (2, .int x2), (3, .int i36)]) [0, 2, 3] rfl ?_
        exact hE_94 _ h
      · replace h := h.2 c56
        refine jx_aload_n hk dX4_isAlive_14 rfl 0 rfl ?_
        refine jx_get (C := RX4) (T := TX4) (N := 34) (ci := 4) (v := .ref p_this_eventNozzle) hk hiX4 0 rfl rfl 5 (by decide) (List.mem_of_getElem? (i := 2) rfl) rfl dX4_isAlive_15 ?_
        refine jx_iload hk dX4_isAlive_18 4 rfl ?_
        obtain ⟨b57, h⟩ := h
        refine jx_iaload hk dX4_isAlive_20 3 rfl b57 ?_
        refine jx_topi (fun v58 e59 => ?_)
        replace h := h v58 e59
        refine jx_iload_n hk dX4_isAlive_21 rfl 2 rfl ?_
        refine jx_icmp_ne (tgt := 52) hk dX4_isAlive_22 (by decide) (fun c60 => ?_) (fun c60 => ?_)
        · replace h := h.1 c60
          refine jx_iconst (v := 0) hk dX4_isAlive_52 (by decide) ?_
          exact J53 _ _ _ h
        · replace h := h.2 c60
          refine jx_aload_n hk dX4_isAlive_25 rfl 0 rfl ?_
          refine jx_get (C := RX4) (T := TX4) (N := 34) (ci := 4) (v := .ref p_this_eventAt) hk hiX4 0 rfl rfl 4 (by decide) (List.mem_of_getElem? (i := 3) rfl) rfl dX4_isAlive_26 ?_
          refine jx_iload hk dX4_isAlive_29 4 rfl ?_
          obtain ⟨b61, h⟩ := h
          refine jx_iaload hk dX4_isAlive_31 2 rfl b61 ?_
          refine jx_topi (fun v62 e63 => ?_)
          replace h := h v62 e63
          refine jx_iload_n hk dX4_isAlive_32 rfl 1 rfl ?_
          refine jx_icmp_gt (tgt := 52) hk dX4_isAlive_33 (by decide) (fun c64 => ?_) (fun c64 => ?_)
          · replace h := h.1 c64
            refine jx_iconst (v := 0) hk dX4_isAlive_52 (by decide) ?_
            exact J53 _ _ _ h
          · replace h := h.2 c64
            refine jx_aload_n hk dX4_isAlive_36 rfl 0 rfl ?_
            refine jx_get (C := RX4) (T := TX4) (N := 34) (ci := 4) (v := .int f_this_notEvents) hk hiX4 0 rfl rfl 8 (by decide) (List.mem_of_getElem? (i := 4) rfl) rfl dX4_isAlive_37 ?_
            refine jx_iload hk dX4_isAlive_40 4 rfl ?_
            refine jx_callSi (wr := [job p_this 4 [.ref p_this_told, .ref p_this_head, .int f_this_events, .ref p_this_eventKind, .ref p_this_eventAt, .ref p_this_eventNozzle, .ref p_this_dots, .ref p_this_now, .int f_this_notEvents, .int f_this_deadNow, .ref p_this_hitMany, .ref p_this_hitPass, .ref p_this_hitNozzle, .ref p_this_hitPrints, .ref p_this_canMany, .ref p_this_printedBy, .ref p_this_missing, .ref p_this_prints, .ref p_this_gutter, .int f_this_allMissed, .int f_this_allWanted, .int f_this_allPrinted, .ref p_this_able, .ref p_this_planRow, .int f_this_seens, .ref p_this_seenLine, .ref p_this_seenMany, .ref p_this_missedBy, .ref p_this_isThere, .ref p_this_forms, .ref p_this_sizes, .ref p_this_items, .ref p_this_moved, .int f_this_finding], jai G p_this_eventKind 8 c_this_eventKind, jai G p_this_eventAt 8 c_this_eventAt, jai G p_this_eventNozzle 8 c_this_eventNozzle]) (ws2 := fun u65 => [job p_this 4 [.ref p_this_told, .ref p_this_head, .int f_this_events, .ref p_this_eventKind, .ref p_this_eventAt, .ref p_this_eventNozzle, .ref p_this_dots, .ref p_this_now, .int f_this_notEvents, .int f_this_deadNow, .ref p_this_hitMany, .ref p_this_hitPass, .ref p_this_hitNozzle, .ref p_this_hitPrints, .ref p_this_canMany, .ref p_this_printedBy, .ref p_this_missing, .ref p_this_prints, .ref p_this_gutter, .int f_this_allMissed, .int f_this_allWanted, .int f_this_allPrinted, .ref p_this_able, .ref p_this_planRow, .int f_this_seens, .ref p_this_seenLine, .ref p_this_seenMany, .ref p_this_missedBy, .ref p_this_isThere, .ref p_this_forms, .ref p_this_sizes, .ref p_this_items, .ref p_this_moved, .int f_this_finding], jai G p_this_eventKind 8 c_this_eventKind, jai G p_this_eventAt 8 c_this_eventAt, jai G p_this_eventNozzle 8 c_this_eventNozzle]) hk (c_X4_isIn l G f_this_notEvents i37 _ h) gX4_isAlive_X4_isIn nd0_X4_isIn rfl rfl rfl ⟨Nat.le_of_ble_eq_true rfl, Nat.le_of_ble_eq_true rfl⟩ [] [0, 1, 2, 3] [0, 1, 2, 3] rfl rfl rfl rfl (by decide) rfl (fun _ => rfl) dX4_isAlive_42 rfl (Nat.le_of_ble_eq_true rfl) ⟨Nat.zero_le _, Nat.zero_le _⟩ (fun r66 u65 h => ?_)
            refine jx_if_ne (tgt := 52) hk dX4_isAlive_45 (by decide) (fun c67 => ?_) (fun c67 => ?_)
            · replace h := h.1 c67
              refine jx_iconst (v := 0) hk dX4_isAlive_52 (by decide) ?_
              exact J53 _ _ _ h
            · replace h := h.2 c67
              refine jx_iconst (v := 1) hk dX4_isAlive_48 (by decide) ?_
              refine jx_goto (tgt := 53) hk dX4_isAlive_49 (by decide) ?_
              exact J53 _ _ _ h
  refine jx_lvs (lv' := [(0, .ref p_this), (1, .int x1), (2, .int x2), (3, .int (-1 : Int32)), (4, .int (0 : Int32))]) [2, 3, 4, 1, 0] rfl ?_
  refine L5 _ ?_ n35 _ _ h
  intro e28 h
  refine jx_iload_n hk dX4_isAlive_94 rfl 1 rfl ?_
  refine jx_aload_n hk dX4_isAlive_95 rfl 0 rfl ?_
  refine jx_get (C := RX4) (T := TX4) (N := 34) (ci := 4) (v := .int f_this_deadNow) hk hiX4 0 rfl rfl 9 (by decide) (List.mem_of_getElem? (i := 5) rfl) rfl dX4_isAlive_96 ?_
  refine jx_icmp_eq (tgt := 121) hk dX4_isAlive_99 (by decide) (fun c29 => ?_) (fun c29 => ?_)
  · replace h := h.1 c29
    refine jx_iconst (v := 0) hk dX4_isAlive_121 (by decide) ?_
    exact hret (0 : Int32) () _ _ dX4_isAlive_122 rfl h
  · replace h := h.2 c29
    refine jx_iload_n hk dX4_isAlive_102 rfl 2 rfl ?_
    refine jx_iconst (v := (-1)) hk dX4_isAlive_103 (by decide) ?_
    refine jx_icmp_eq (tgt := 117) hk dX4_isAlive_104 (by decide) (fun c30 => ?_) (fun c30 => ?_)
    · replace h := h.1 c30
      refine jx_iconst (v := 1) hk dX4_isAlive_117 (by decide) ?_
      refine jx_goto (tgt := 122) hk dX4_isAlive_118 (by decide) ?_
      exact hret (1 : Int32) () _ _ dX4_isAlive_122 rfl h
    · replace h := h.2 c30
      refine jx_aload_n hk dX4_isAlive_107 rfl 0 rfl ?_
      refine jx_get (C := RX4) (T := TX4) (N := 34) (ci := 4) (v := .ref p_this_eventKind) hk hiX4 0 rfl rfl 3 (by decide) (List.mem_of_getElem? (i := 6) rfl) rfl dX4_isAlive_108 ?_
      refine jx_iload_n hk dX4_isAlive_111 rfl 2 rfl ?_
      obtain ⟨b31, h⟩ := h
      refine jx_iaload hk dX4_isAlive_112 1 rfl b31 ?_
      refine jx_topi (fun v32 e33 => ?_)
      replace h := h v32 e33
      refine jx_iconst (v := 1) hk dX4_isAlive_113 (by decide) ?_
      refine jx_icmp_ne (tgt := 121) hk dX4_isAlive_114 (by decide) (fun c34 => ?_) (fun c34 => ?_)
      · replace h := h.1 c34
        refine jx_iconst (v := 0) hk dX4_isAlive_121 (by decide) ?_
        exact hret (0 : Int32) () _ _ dX4_isAlive_122 rfl h
      · replace h := h.2 c34
        refine jx_iconst (v := 1) hk dX4_isAlive_117 (by decide) ?_
        refine jx_goto (tgt := 122) hk dX4_isAlive_118 (by decide) ?_
        exact hret (1 : Int32) () _ _ dX4_isAlive_122 rfl h
set_option maxHeartbeats 4000000 in
set_option maxRecDepth 100000 in
theorem c_X4_reaches (l : Launch) (G : jG) (p_this p_this_told p_this_head p_this_eventKind p_this_eventAt p_this_eventNozzle p_this_dots p_this_now p_this_hitMany p_this_hitPass p_this_hitNozzle p_this_hitPrints p_this_canMany p_this_printedBy p_this_missing p_this_prints p_this_gutter p_this_able p_this_planRow p_this_seenLine p_this_seenMany p_this_missedBy p_this_isThere p_this_forms p_this_sizes p_this_items p_this_moved : Nat) (f_this_events : Int32) (f_this_notEvents : Int32) (f_this_deadNow : Int32) (f_this_allMissed : Int32) (f_this_allWanted : Int32) (f_this_allPrinted : Int32) (f_this_seens : Int32) (f_this_finding : Int32) (c_this_now : Nat → Int32) (x1 : Int32) (x2 : Int32) (post : Int32 → Unit → Prop) (h : wp_X4_reaches x1 x2 c_this_now post) : jmi l yX4_reaches wsX4_reaches { frames := 0, cells := 0, slots := 0, locals := 0 } G [.ref p_this, .int x1, .int x2] [job p_this 4 [.ref p_this_told, .ref p_this_head, .int f_this_events, .ref p_this_eventKind, .ref p_this_eventAt, .ref p_this_eventNozzle, .ref p_this_dots, .ref p_this_now, .int f_this_notEvents, .int f_this_deadNow, .ref p_this_hitMany, .ref p_this_hitPass, .ref p_this_hitNozzle, .ref p_this_hitPrints, .ref p_this_canMany, .ref p_this_printedBy, .ref p_this_missing, .ref p_this_prints, .ref p_this_gutter, .int f_this_allMissed, .int f_this_allWanted, .int f_this_allPrinted, .ref p_this_able, .ref p_this_planRow, .int f_this_seens, .ref p_this_seenLine, .ref p_this_seenMany, .ref p_this_missedBy, .ref p_this_isThere, .ref p_this_forms, .ref p_this_sizes, .ref p_this_items, .ref p_this_moved, .int f_this_finding], jai G p_this_now 9 c_this_now] (fun u : Unit => [job p_this 4 [.ref p_this_told, .ref p_this_head, .int f_this_events, .ref p_this_eventKind, .ref p_this_eventAt, .ref p_this_eventNozzle, .ref p_this_dots, .ref p_this_now, .int f_this_notEvents, .int f_this_deadNow, .ref p_this_hitMany, .ref p_this_hitPass, .ref p_this_hitNozzle, .ref p_this_hitPrints, .ref p_this_canMany, .ref p_this_printedBy, .ref p_this_missing, .ref p_this_prints, .ref p_this_gutter, .int f_this_allMissed, .int f_this_allWanted, .int f_this_allPrinted, .ref p_this_able, .ref p_this_planRow, .int f_this_seens, .ref p_this_seenLine, .ref p_this_seenMany, .ref p_this_missedBy, .ref p_this_isThere, .ref p_this_forms, .ref p_this_sizes, .ref p_this_items, .ref p_this_moved, .int f_this_finding], jai G p_this_now 9 c_this_now]) post 0 0 := by
  refine jm_z (cc := cX4_reaches) (maxL := 3) (by decide) rfl (Nat.le_of_ble_eq_true rfl) ?_
  intro k A hk hin hret
  unfold wp_X4_reaches at h
  have hiX4 : ∀ w ∈ u_ws RX4 TX4 34, w ∈ wsX4_reaches := (fun w h => List.mem_cons_of_mem _ (List.mem_append_right _ h))
  show jx k G A 3 0 0 [job p_this 4 [.ref p_this_told, .ref p_this_head, .int f_this_events, .ref p_this_eventKind, .ref p_this_eventAt, .ref p_this_eventNozzle, .ref p_this_dots, .ref p_this_now, .int f_this_notEvents, .int f_this_deadNow, .ref p_this_hitMany, .ref p_this_hitPass, .ref p_this_hitNozzle, .ref p_this_hitPrints, .ref p_this_canMany, .ref p_this_printedBy, .ref p_this_missing, .ref p_this_prints, .ref p_this_gutter, .int f_this_allMissed, .int f_this_allWanted, .int f_this_allPrinted, .ref p_this_able, .ref p_this_planRow, .int f_this_seens, .ref p_this_seenLine, .ref p_this_seenMany, .ref p_this_missedBy, .ref p_this_isThere, .ref p_this_forms, .ref p_this_sizes, .ref p_this_items, .ref p_this_moved, .int f_this_finding], jai G p_this_now 9 c_this_now] 0 [(0, .ref p_this), (1, .int x1), (2, .int x2)] []
  refine jx_iload_n hk dX4_reaches_0 rfl 1 rfl ?_
  refine jx_iconst (v := 2) hk dX4_reaches_1 (by decide) ?_
  refine jx_irem hk dX4_reaches_2 (by decide) ?_
  refine jx_if_ne (tgt := 28) hk dX4_reaches_3 (by decide) (fun c1 => ?_) (fun c1 => ?_)
  · replace h := h.1 c1
    refine jx_iload_n hk dX4_reaches_28 rfl 2 rfl ?_
    refine jx_aload_n hk dX4_reaches_29 rfl 0 rfl ?_
    refine jx_get (C := RX4) (T := TX4) (N := 34) (ci := 4) (v := .ref p_this_now) hk hiX4 0 rfl rfl 7 (by decide) (List.mem_of_getElem? (i := 1) rfl) rfl dX4_reaches_30 ?_
    refine jx_bipush (v := 7) hk dX4_reaches_33 (by decide) ?_
    refine jx_ialoadC (j := 7) hk dX4_reaches_35 1 rfl (by decide) ?_
    refine jx_icmp_lt (tgt := 43) hk dX4_reaches_36 (by decide) (fun c2 => ?_) (fun c2 => ?_)
    · replace h := h.1 c2
      refine jx_iconst (v := 0) hk dX4_reaches_43 (by decide) ?_
      exact hret (0 : Int32) () _ _ dX4_reaches_44 rfl h
    · replace h := h.2 c2
      refine jx_iconst (v := 1) hk dX4_reaches_39 (by decide) ?_
      refine jx_goto (tgt := 44) hk dX4_reaches_40 (by decide) ?_
      exact hret (1 : Int32) () _ _ dX4_reaches_44 rfl h
  · replace h := h.2 c1
    refine jx_iload_n hk dX4_reaches_6 rfl 2 rfl ?_
    refine jx_bipush (v := 8) hk dX4_reaches_7 (by decide) ?_
    refine jx_aload_n hk dX4_reaches_9 rfl 0 rfl ?_
    refine jx_get (C := RX4) (T := TX4) (N := 34) (ci := 4) (v := .ref p_this_now) hk hiX4 0 rfl rfl 7 (by decide) (List.mem_of_getElem? (i := 1) rfl) rfl dX4_reaches_10 ?_
    refine jx_bipush (v := 7) hk dX4_reaches_13 (by decide) ?_
    refine jx_ialoadC (j := 7) hk dX4_reaches_15 1 rfl (by decide) ?_
    refine jx_isub hk dX4_reaches_16 ?_
    refine jx_icmp_ge (tgt := 24) hk dX4_reaches_17 (by decide) (fun c3 => ?_) (fun c3 => ?_)
    · replace h := h.1 c3
      refine jx_iconst (v := 0) hk dX4_reaches_24 (by decide) ?_
      refine jx_goto (tgt := 44) hk dX4_reaches_25 (by decide) ?_
      exact hret (0 : Int32) () _ _ dX4_reaches_44 rfl h
    · replace h := h.2 c3
      refine jx_iconst (v := 1) hk dX4_reaches_20 (by decide) ?_
      refine jx_goto (tgt := 44) hk dX4_reaches_21 (by decide) ?_
      exact hret (1 : Int32) () _ _ dX4_reaches_44 rfl h
set_option maxHeartbeats 4000000 in
set_option maxRecDepth 100000 in
theorem c_X4_isAble (l : Launch) (G : jG) (p_this p_this_told p_this_head p_this_eventKind p_this_eventAt p_this_eventNozzle p_this_dots p_this_now p_this_hitMany p_this_hitPass p_this_hitNozzle p_this_hitPrints p_this_canMany p_this_printedBy p_this_missing p_this_prints p_this_gutter p_this_able p_this_planRow p_this_seenLine p_this_seenMany p_this_missedBy p_this_isThere p_this_forms p_this_sizes p_this_items p_this_moved : Nat) (f_this_allMissed : Int32) (f_this_allWanted : Int32) (f_this_allPrinted : Int32) (f_this_seens : Int32) (f_this_finding : Int32) (f_this_events : Int32) (f_this_notEvents : Int32) (f_this_deadNow : Int32) (c_this_eventKind : Nat → Int32) (c_this_eventAt : Nat → Int32) (c_this_eventNozzle : Nat → Int32) (c_this_now : Nat → Int32) (c_this_hitPass : Nat → Int32) (c_this_hitNozzle : Nat → Int32) (x1 : Int32) (x2 : Int32) (x3 : Int32) (post : Int32 → Unit → Prop) (h : wp_X4_isAble x1 x2 x3 f_this_events f_this_notEvents f_this_deadNow c_this_eventKind c_this_eventAt c_this_eventNozzle c_this_now c_this_hitPass c_this_hitNozzle post) : jmi l yX4_isAble wsX4_isAble { frames := 2, cells := 0, slots := 0, locals := 46 } G [.ref p_this, .int x1, .int x2, .int x3] [job p_this 4 [.ref p_this_told, .ref p_this_head, .int f_this_events, .ref p_this_eventKind, .ref p_this_eventAt, .ref p_this_eventNozzle, .ref p_this_dots, .ref p_this_now, .int f_this_notEvents, .int f_this_deadNow, .ref p_this_hitMany, .ref p_this_hitPass, .ref p_this_hitNozzle, .ref p_this_hitPrints, .ref p_this_canMany, .ref p_this_printedBy, .ref p_this_missing, .ref p_this_prints, .ref p_this_gutter, .int f_this_allMissed, .int f_this_allWanted, .int f_this_allPrinted, .ref p_this_able, .ref p_this_planRow, .int f_this_seens, .ref p_this_seenLine, .ref p_this_seenMany, .ref p_this_missedBy, .ref p_this_isThere, .ref p_this_forms, .ref p_this_sizes, .ref p_this_items, .ref p_this_moved, .int f_this_finding], jai G p_this_eventKind 8 c_this_eventKind, jai G p_this_eventAt 8 c_this_eventAt, jai G p_this_eventNozzle 8 c_this_eventNozzle, jai G p_this_now 9 c_this_now, jai G p_this_hitPass 192 c_this_hitPass, jai G p_this_hitNozzle 192 c_this_hitNozzle] (fun u : Unit => [job p_this 4 [.ref p_this_told, .ref p_this_head, .int f_this_events, .ref p_this_eventKind, .ref p_this_eventAt, .ref p_this_eventNozzle, .ref p_this_dots, .ref p_this_now, .int f_this_notEvents, .int f_this_deadNow, .ref p_this_hitMany, .ref p_this_hitPass, .ref p_this_hitNozzle, .ref p_this_hitPrints, .ref p_this_canMany, .ref p_this_printedBy, .ref p_this_missing, .ref p_this_prints, .ref p_this_gutter, .int f_this_allMissed, .int f_this_allWanted, .int f_this_allPrinted, .ref p_this_able, .ref p_this_planRow, .int f_this_seens, .ref p_this_seenLine, .ref p_this_seenMany, .ref p_this_missedBy, .ref p_this_isThere, .ref p_this_forms, .ref p_this_sizes, .ref p_this_items, .ref p_this_moved, .int f_this_finding], jai G p_this_eventKind 8 c_this_eventKind, jai G p_this_eventAt 8 c_this_eventAt, jai G p_this_eventNozzle 8 c_this_eventNozzle, jai G p_this_now 9 c_this_now, jai G p_this_hitPass 192 c_this_hitPass, jai G p_this_hitNozzle 192 c_this_hitNozzle]) post 0 0 := by
  refine jm_z (cc := cX4_isAble) (maxL := 5) (by decide) rfl (Nat.le_of_ble_eq_true rfl) ?_
  intro k A hk hin hret
  unfold wp_X4_isAble at h
  have hiX4 : ∀ w ∈ u_ws RX4 TX4 34, w ∈ wsX4_isAble := (fun w h => List.mem_cons_of_mem _ (List.mem_append_right _ h))
  show jx k G A 5 0 0 [job p_this 4 [.ref p_this_told, .ref p_this_head, .int f_this_events, .ref p_this_eventKind, .ref p_this_eventAt, .ref p_this_eventNozzle, .ref p_this_dots, .ref p_this_now, .int f_this_notEvents, .int f_this_deadNow, .ref p_this_hitMany, .ref p_this_hitPass, .ref p_this_hitNozzle, .ref p_this_hitPrints, .ref p_this_canMany, .ref p_this_printedBy, .ref p_this_missing, .ref p_this_prints, .ref p_this_gutter, .int f_this_allMissed, .int f_this_allWanted, .int f_this_allPrinted, .ref p_this_able, .ref p_this_planRow, .int f_this_seens, .ref p_this_seenLine, .ref p_this_seenMany, .ref p_this_missedBy, .ref p_this_isThere, .ref p_this_forms, .ref p_this_sizes, .ref p_this_items, .ref p_this_moved, .int f_this_finding], jai G p_this_eventKind 8 c_this_eventKind, jai G p_this_eventAt 8 c_this_eventAt, jai G p_this_eventNozzle 8 c_this_eventNozzle, jai G p_this_now 9 c_this_now, jai G p_this_hitPass 192 c_this_hitPass, jai G p_this_hitNozzle 192 c_this_hitNozzle] 0 [(0, .ref p_this), (1, .int x1), (2, .int x2), (3, .int x3)] []
  refine jx_bipush (v := 12) hk dX4_isAble_0 (by decide) ?_
  refine jx_iload_n hk dX4_isAble_2 rfl 1 rfl ?_
  refine jx_imul hk dX4_isAble_3 ?_
  refine jx_topi (fun v1 e2 => ?_)
  replace h := h v1 e2
  refine jx_iload_n hk dX4_isAble_4 rfl 2 rfl ?_
  refine jx_iadd hk dX4_isAble_5 ?_
  refine jx_topi (fun v3 e4 => ?_)
  replace h := h v3 e4
  refine jx_istore (lv' := [(4, .int v3), (0, .ref p_this), (1, .int x1), (2, .int x2), (3, .int x3)]) hk dX4_isAble_6 (by decide) rfl ?_
  refine jx_aload_n hk dX4_isAble_8 rfl 1 rfl ?_
  refine jx_aload_n hk dX4_isAble_9 rfl 1 rfl ?_
  refine jx_get (C := RX4) (T := TX4) (N := 34) (ci := 4) (v := .ref p_this_hitPass) hk hiX4 0 rfl rfl 11 (by decide) (List.mem_of_getElem? (i := 1) rfl) rfl dX4_isAble_10 ?_
  refine jx_iload hk dX4_isAble_13 0 rfl ?_
  obtain ⟨b5, h⟩ := h
  refine jx_iaload hk dX4_isAble_15 5 rfl b5 ?_
  refine jx_topi (fun v6 e7 => ?_)
  replace h := h v6 e7
  refine jx_aload_n hk dX4_isAble_16 rfl 1 rfl ?_
  refine jx_get (C := RX4) (T := TX4) (N := 34) (ci := 4) (v := .ref p_this_hitNozzle) hk hiX4 0 rfl rfl 12 (by decide) (List.mem_of_getElem? (i := 2) rfl) rfl dX4_isAble_17 ?_
  refine jx_iload hk dX4_isAble_20 0 rfl ?_
  obtain ⟨b8, h⟩ := h
  refine jx_iaload hk dX4_isAble_22 6 rfl b8 ?_
  refine jx_topi (fun v9 e10 => ?_)
  replace h := h v9 e10
  refine jx_callVi (wr := [jai G p_this_now 9 c_this_now, jai G p_this_hitPass 192 c_this_hitPass, jai G p_this_hitNozzle 192 c_this_hitNozzle]) (ws2 := fun u11 => [job p_this 4 [.ref p_this_told, .ref p_this_head, .int f_this_events, .ref p_this_eventKind, .ref p_this_eventAt, .ref p_this_eventNozzle, .ref p_this_dots, .ref p_this_now, .int f_this_notEvents, .int f_this_deadNow, .ref p_this_hitMany, .ref p_this_hitPass, .ref p_this_hitNozzle, .ref p_this_hitPrints, .ref p_this_canMany, .ref p_this_printedBy, .ref p_this_missing, .ref p_this_prints, .ref p_this_gutter, .int f_this_allMissed, .int f_this_allWanted, .int f_this_allPrinted, .ref p_this_able, .ref p_this_planRow, .int f_this_seens, .ref p_this_seenLine, .ref p_this_seenMany, .ref p_this_missedBy, .ref p_this_isThere, .ref p_this_forms, .ref p_this_sizes, .ref p_this_items, .ref p_this_moved, .int f_this_finding], jai G p_this_eventKind 8 c_this_eventKind, jai G p_this_eventAt 8 c_this_eventAt, jai G p_this_eventNozzle 8 c_this_eventNozzle, jai G p_this_now 9 c_this_now, jai G p_this_hitPass 192 c_this_hitPass, jai G p_this_hitNozzle 192 c_this_hitNozzle]) hk (c_X4_isAlive l G p_this p_this_told p_this_head p_this_eventKind p_this_eventAt p_this_eventNozzle p_this_dots p_this_now p_this_hitMany p_this_hitPass p_this_hitNozzle p_this_hitPrints p_this_canMany p_this_printedBy p_this_missing p_this_prints p_this_gutter p_this_able p_this_planRow p_this_seenLine p_this_seenMany p_this_missedBy p_this_isThere p_this_forms p_this_sizes p_this_items p_this_moved f_this_allMissed f_this_allWanted f_this_allPrinted f_this_seens f_this_finding f_this_events f_this_notEvents f_this_deadNow c_this_eventKind c_this_eventAt c_this_eventNozzle v6 v9 _ h) 0 rfl rfl gX4_isAble_X4_isAlive ndV_X4_isAlive rfl rfl rfl ⟨Nat.le_of_ble_eq_true rfl, Nat.le_of_ble_eq_true rfl⟩ [0, 1, 2, 3] [4, 5, 6] [3, 4, 5, 6, 0, 1, 2] rfl rfl rfl rfl (by decide) rfl (fun _ => rfl) dX4_isAble_23 rfl (Nat.le_of_ble_eq_true rfl) ⟨Nat.zero_le _, Nat.zero_le _⟩ (fun r12 u11 h => ?_)
  refine jx_if_eq (tgt := 48) hk dX4_isAble_26 (by decide) (fun c13 => ?_) (fun c13 => ?_)
  · replace h := h.1 c13
    refine jx_iconst (v := 0) hk dX4_isAble_48 (by decide) ?_
    exact hret (0 : Int32) () _ _ dX4_isAble_49 rfl h
  · replace h := h.2 c13
    refine jx_aload_n hk dX4_isAble_29 rfl 1 rfl ?_
    refine jx_aload_n hk dX4_isAble_30 rfl 1 rfl ?_
    refine jx_get (C := RX4) (T := TX4) (N := 34) (ci := 4) (v := .ref p_this_hitPass) hk hiX4 0 rfl rfl 11 (by decide) (List.mem_of_getElem? (i := 1) rfl) rfl dX4_isAble_31 ?_
    refine jx_iload hk dX4_isAble_34 0 rfl ?_
    obtain ⟨b14, h⟩ := h
    refine jx_iaload hk dX4_isAble_36 5 rfl b14 ?_
    refine jx_topi (fun v15 e16 => ?_)
    replace h := h v15 e16
    refine jx_iload_n hk dX4_isAble_37 rfl 4 rfl ?_
    refine jx_callVi (wr := [jai G p_this_eventKind 8 c_this_eventKind, jai G p_this_eventAt 8 c_this_eventAt, jai G p_this_eventNozzle 8 c_this_eventNozzle, jai G p_this_hitPass 192 c_this_hitPass, jai G p_this_hitNozzle 192 c_this_hitNozzle]) (ws2 := fun u17 => [job p_this 4 [.ref p_this_told, .ref p_this_head, .int f_this_events, .ref p_this_eventKind, .ref p_this_eventAt, .ref p_this_eventNozzle, .ref p_this_dots, .ref p_this_now, .int f_this_notEvents, .int f_this_deadNow, .ref p_this_hitMany, .ref p_this_hitPass, .ref p_this_hitNozzle, .ref p_this_hitPrints, .ref p_this_canMany, .ref p_this_printedBy, .ref p_this_missing, .ref p_this_prints, .ref p_this_gutter, .int f_this_allMissed, .int f_this_allWanted, .int f_this_allPrinted, .ref p_this_able, .ref p_this_planRow, .int f_this_seens, .ref p_this_seenLine, .ref p_this_seenMany, .ref p_this_missedBy, .ref p_this_isThere, .ref p_this_forms, .ref p_this_sizes, .ref p_this_items, .ref p_this_moved, .int f_this_finding], jai G p_this_eventKind 8 c_this_eventKind, jai G p_this_eventAt 8 c_this_eventAt, jai G p_this_eventNozzle 8 c_this_eventNozzle, jai G p_this_now 9 c_this_now, jai G p_this_hitPass 192 c_this_hitPass, jai G p_this_hitNozzle 192 c_this_hitNozzle]) hk (c_X4_reaches l G p_this p_this_told p_this_head p_this_eventKind p_this_eventAt p_this_eventNozzle p_this_dots p_this_now p_this_hitMany p_this_hitPass p_this_hitNozzle p_this_hitPrints p_this_canMany p_this_printedBy p_this_missing p_this_prints p_this_gutter p_this_able p_this_planRow p_this_seenLine p_this_seenMany p_this_missedBy p_this_isThere p_this_forms p_this_sizes p_this_items p_this_moved f_this_events f_this_notEvents f_this_deadNow f_this_allMissed f_this_allWanted f_this_allPrinted f_this_seens f_this_finding c_this_now v15 x3 _ h) 0 rfl rfl gX4_isAble_X4_reaches ndV_X4_reaches rfl rfl rfl ⟨Nat.le_of_ble_eq_true rfl, Nat.le_of_ble_eq_true rfl⟩ [0, 4] [1, 2, 3, 5, 6] [5, 0, 1, 2, 6, 3, 4] rfl rfl rfl rfl (by decide) rfl (fun _ => rfl) dX4_isAble_38 rfl (Nat.le_of_ble_eq_true rfl) ⟨Nat.zero_le _, Nat.zero_le _⟩ (fun r18 u17 h => ?_)
    refine jx_if_eq (tgt := 48) hk dX4_isAble_41 (by decide) (fun c19 => ?_) (fun c19 => ?_)
    · replace h := h.1 c19
      refine jx_iconst (v := 0) hk dX4_isAble_48 (by decide) ?_
      exact hret (0 : Int32) () _ _ dX4_isAble_49 rfl h
    · replace h := h.2 c19
      refine jx_iconst (v := 1) hk dX4_isAble_44 (by decide) ?_
      refine jx_goto (tgt := 49) hk dX4_isAble_45 (by decide) ?_
      exact hret (1 : Int32) () _ _ dX4_isAble_49 rfl h
set_option maxHeartbeats 4000000 in
set_option maxRecDepth 100000 in
theorem c_X4_findsHits (l : Launch) (G : jG) (p_this p_this_told p_this_head p_this_eventKind p_this_eventAt p_this_eventNozzle p_this_dots p_this_now p_this_hitMany p_this_hitPass p_this_hitNozzle p_this_hitPrints p_this_canMany p_this_printedBy p_this_missing p_this_prints p_this_gutter p_this_able p_this_planRow p_this_seenLine p_this_seenMany p_this_missedBy p_this_isThere p_this_forms p_this_sizes p_this_items p_this_moved : Nat) (f_this_events : Int32) (f_this_notEvents : Int32) (f_this_deadNow : Int32) (f_this_allMissed : Int32) (f_this_allWanted : Int32) (f_this_allPrinted : Int32) (f_this_seens : Int32) (f_this_finding : Int32) (c_this_now : Nat → Int32) (c_this_hitMany : Nat → Int32) (c_this_hitPass : Nat → Int32) (c_this_hitNozzle : Nat → Int32) (c_this_hitPrints : Nat → Int32) (post : ((Nat → Int32) × (Nat → Int32) × (Nat → Int32) × (Nat → Int32)) → Prop) (h : wp_X4_findsHits c_this_now c_this_hitMany c_this_hitPass c_this_hitNozzle c_this_hitPrints post) : jmv l yX4_findsHits wsX4_findsHits { frames := 2, cells := 0, slots := 0, locals := 42 } G [.ref p_this] [job p_this 4 [.ref p_this_told, .ref p_this_head, .int f_this_events, .ref p_this_eventKind, .ref p_this_eventAt, .ref p_this_eventNozzle, .ref p_this_dots, .ref p_this_now, .int f_this_notEvents, .int f_this_deadNow, .ref p_this_hitMany, .ref p_this_hitPass, .ref p_this_hitNozzle, .ref p_this_hitPrints, .ref p_this_canMany, .ref p_this_printedBy, .ref p_this_missing, .ref p_this_prints, .ref p_this_gutter, .int f_this_allMissed, .int f_this_allWanted, .int f_this_allPrinted, .ref p_this_able, .ref p_this_planRow, .int f_this_seens, .ref p_this_seenLine, .ref p_this_seenMany, .ref p_this_missedBy, .ref p_this_isThere, .ref p_this_forms, .ref p_this_sizes, .ref p_this_items, .ref p_this_moved, .int f_this_finding], jai G p_this_now 9 c_this_now, jai G p_this_hitMany 16 c_this_hitMany, jai G p_this_hitPass 192 c_this_hitPass, jai G p_this_hitNozzle 192 c_this_hitNozzle, jai G p_this_hitPrints 192 c_this_hitPrints] (fun u : (Nat → Int32) × (Nat → Int32) × (Nat → Int32) × (Nat → Int32) => [job p_this 4 [.ref p_this_told, .ref p_this_head, .int f_this_events, .ref p_this_eventKind, .ref p_this_eventAt, .ref p_this_eventNozzle, .ref p_this_dots, .ref p_this_now, .int f_this_notEvents, .int f_this_deadNow, .ref p_this_hitMany, .ref p_this_hitPass, .ref p_this_hitNozzle, .ref p_this_hitPrints, .ref p_this_canMany, .ref p_this_printedBy, .ref p_this_missing, .ref p_this_prints, .ref p_this_gutter, .int f_this_allMissed, .int f_this_allWanted, .int f_this_allPrinted, .ref p_this_able, .ref p_this_planRow, .int f_this_seens, .ref p_this_seenLine, .ref p_this_seenMany, .ref p_this_missedBy, .ref p_this_isThere, .ref p_this_forms, .ref p_this_sizes, .ref p_this_items, .ref p_this_moved, .int f_this_finding], jai G p_this_now 9 c_this_now, jai G p_this_hitMany 16 u.1, jai G p_this_hitPass 192 u.2.1, jai G p_this_hitNozzle 192 u.2.2.1, jai G p_this_hitPrints 192 u.2.2.2]) post 0 0 := by
  refine jm_v (cc := cX4_findsHits) (maxL := 5) (by decide) rfl (Nat.le_of_ble_eq_true rfl) ?_
  intro k A hk hin hret
  unfold wp_X4_findsHits at h
  have hiX4 : ∀ w ∈ u_ws RX4 TX4 34, w ∈ wsX4_findsHits := (fun w h => List.mem_cons_of_mem _ (List.mem_append_right _ h))
  show jx k G A 5 0 0 [job p_this 4 [.ref p_this_told, .ref p_this_head, .int f_this_events, .ref p_this_eventKind, .ref p_this_eventAt, .ref p_this_eventNozzle, .ref p_this_dots, .ref p_this_now, .int f_this_notEvents, .int f_this_deadNow, .ref p_this_hitMany, .ref p_this_hitPass, .ref p_this_hitNozzle, .ref p_this_hitPrints, .ref p_this_canMany, .ref p_this_printedBy, .ref p_this_missing, .ref p_this_prints, .ref p_this_gutter, .int f_this_allMissed, .int f_this_allWanted, .int f_this_allPrinted, .ref p_this_able, .ref p_this_planRow, .int f_this_seens, .ref p_this_seenLine, .ref p_this_seenMany, .ref p_this_missedBy, .ref p_this_isThere, .ref p_this_forms, .ref p_this_sizes, .ref p_this_items, .ref p_this_moved, .int f_this_finding], jai G p_this_now 9 c_this_now, jai G p_this_hitMany 16 c_this_hitMany, jai G p_this_hitPass 192 c_this_hitPass, jai G p_this_hitNozzle 192 c_this_hitNozzle, jai G p_this_hitPrints 192 c_this_hitPrints] 0 [(0, .ref p_this)] []
  refine jx_iconst (v := 0) hk dX4_findsHits_0 (by decide) ?_
  refine jx_istore_n (lv' := [(1, .int (0 : Int32)), (0, .ref p_this)]) hk dX4_findsHits_1 rfl (by decide) rfl ?_
  obtain ⟨n126, h⟩ := h
  have L2 : ∀ (Ke_21 : (Nat → Int32) → Prop), (∀ (d74 : Nat → Int32), Ke_21 d74 → jx k G A 5 0 0 [job p_this 4 [.ref p_this_told, .ref p_this_head, .int f_this_events, .ref p_this_eventKind, .ref p_this_eventAt, .ref p_this_eventNozzle, .ref p_this_dots, .ref p_this_now, .int f_this_notEvents, .int f_this_deadNow, .ref p_this_hitMany, .ref p_this_hitPass, .ref p_this_hitNozzle, .ref p_this_hitPrints, .ref p_this_canMany, .ref p_this_printedBy, .ref p_this_missing, .ref p_this_prints, .ref p_this_gutter, .int f_this_allMissed, .int f_this_allWanted, .int f_this_allPrinted, .ref p_this_able, .ref p_this_planRow, .int f_this_seens, .ref p_this_seenLine, .ref p_this_seenMany, .ref p_this_missedBy, .ref p_this_isThere, .ref p_this_forms, .ref p_this_sizes, .ref p_this_items, .ref p_this_moved, .int f_this_finding], jai G p_this_now 9 c_this_now, jai G p_this_hitMany 16 d74, jai G p_this_hitPass 192 c_this_hitPass, jai G p_this_hitNozzle 192 c_this_hitNozzle, jai G p_this_hitPrints 192 c_this_hitPrints] 21 [(0, .ref p_this)] []) → ∀ (n : Nat) (i127 : Int32) (w128 : Nat → Int32), wq_X4_findsHits_2 c_this_now c_this_hitPass c_this_hitNozzle c_this_hitPrints post Ke_21 n i127 w128 → jx k G A 5 0 0 [job p_this 4 [.ref p_this_told, .ref p_this_head, .int f_this_events, .ref p_this_eventKind, .ref p_this_eventAt, .ref p_this_eventNozzle, .ref p_this_dots, .ref p_this_now, .int f_this_notEvents, .int f_this_deadNow, .ref p_this_hitMany, .ref p_this_hitPass, .ref p_this_hitNozzle, .ref p_this_hitPrints, .ref p_this_canMany, .ref p_this_printedBy, .ref p_this_missing, .ref p_this_prints, .ref p_this_gutter, .int f_this_allMissed, .int f_this_allWanted, .int f_this_allPrinted, .ref p_this_able, .ref p_this_planRow, .int f_this_seens, .ref p_this_seenLine, .ref p_this_seenMany, .ref p_this_missedBy, .ref p_this_isThere, .ref p_this_forms, .ref p_this_sizes, .ref p_this_items, .ref p_this_moved, .int f_this_finding], jai G p_this_now 9 c_this_now, jai G p_this_hitMany 16 w128, jai G p_this_hitPass 192 c_this_hitPass, jai G p_this_hitNozzle 192 c_this_hitNozzle, jai G p_this_hitPrints 192 c_this_hitPrints] 2 [(0, .ref p_this), (1, .int i127)] [] := by
    intro Ke_21 hE_21 n
    induction n with
    | zero =>
      intro _ _ h
      exact h.elim
    | succ n ih =>
      intro i127 w128 h
      unfold wq_X4_findsHits_2 at h
      refine jx_iload_n hk dX4_findsHits_2 rfl 1 rfl ?_
      refine jx_bipush (v := 16) hk dX4_findsHits_3 (by decide) ?_
      refine jx_icmp_ge (tgt := 21) hk dX4_findsHits_5 (by decide) (fun c129 => ?_) (fun c129 => ?_)
      · replace h := h.1 c129
        refine jx_lvs (lv' := [(0, .ref p_this)]) [0] rfl ?_
        exact hE_21 _ h
      · replace h := h.2 c129
        refine jx_aload_n hk dX4_findsHits_8 rfl 0 rfl ?_
        refine jx_get (C := RX4) (T := TX4) (N := 34) (ci := 4) (v := .ref p_this_hitMany) hk hiX4 0 rfl rfl 10 (by decide) (List.mem_of_getElem? (i := 1) rfl) rfl dX4_findsHits_9 ?_
        refine jx_iload_n hk dX4_findsHits_12 rfl 1 rfl ?_
        refine jx_iconst (v := 0) hk dX4_findsHits_13 (by decide) ?_
        obtain ⟨b130, h⟩ := h
        refine jx_iastore (ws' := [job p_this 4 [.ref p_this_told, .ref p_this_head, .int f_this_events, .ref p_this_eventKind, .ref p_this_eventAt, .ref p_this_eventNozzle, .ref p_this_dots, .ref p_this_now, .int f_this_notEvents, .int f_this_deadNow, .ref p_this_hitMany, .ref p_this_hitPass, .ref p_this_hitNozzle, .ref p_this_hitPrints, .ref p_this_canMany, .ref p_this_printedBy, .ref p_this_missing, .ref p_this_prints, .ref p_this_gutter, .int f_this_allMissed, .int f_this_allWanted, .int f_this_allPrinted, .ref p_this_able, .ref p_this_planRow, .int f_this_seens, .ref p_this_seenLine, .ref p_this_seenMany, .ref p_this_missedBy, .ref p_this_isThere, .ref p_this_forms, .ref p_this_sizes, .ref p_this_items, .ref p_this_moved, .int f_this_finding], jai G p_this_now 9 c_this_now, jai G p_this_hitMany 16 (upd w128 i127.toNatClampNeg (0 : Int32)), jai G p_this_hitPass 192 c_this_hitPass, jai G p_this_hitNozzle 192 c_this_hitNozzle, jai G p_this_hitPrints 192 c_this_hitPrints]) hk dX4_findsHits_14 2 rfl b130 rfl ?_
        refine jx_iincN (lvf := fun vq => [(1, .int vq), (0, .ref p_this)]) (c := 1) hk dX4_findsHits_15 1 rfl (by decide) (by decide) (fun _ => rfl) (fun v131 e132 => ?_)
        replace h := h v131 e132
        refine jx_goto (tgt := 2) hk dX4_findsHits_18 (by decide) ?_
        refine jx_lvs (lv' := [(0, .ref p_this), (1, .int v131)]) [1, 0] rfl ?_
        exact ih _ _ h
  refine jx_lvs (lv' := [(0, .ref p_this), (1, .int (0 : Int32))]) [1, 0] rfl ?_
  refine L2 _ ?_ n126 _ _ h
  intro d74 h
  refine jx_iconst (v := 0) hk dX4_findsHits_21 (by decide) ?_
  refine jx_istore_n (lv' := [(1, .int (0 : Int32)), (0, .ref p_this)]) hk dX4_findsHits_22 rfl (by decide) rfl ?_
  obtain ⟨n79, h⟩ := h
  have L23 : ∀ (Ke_136 : (Nat → Int32) → (Nat → Int32) → (Nat → Int32) → (Nat → Int32) → Prop), (∀ (d75 : Nat → Int32) (d76 : Nat → Int32) (d77 : Nat → Int32) (d78 : Nat → Int32), Ke_136 d75 d76 d77 d78 → jx k G A 5 0 0 [job p_this 4 [.ref p_this_told, .ref p_this_head, .int f_this_events, .ref p_this_eventKind, .ref p_this_eventAt, .ref p_this_eventNozzle, .ref p_this_dots, .ref p_this_now, .int f_this_notEvents, .int f_this_deadNow, .ref p_this_hitMany, .ref p_this_hitPass, .ref p_this_hitNozzle, .ref p_this_hitPrints, .ref p_this_canMany, .ref p_this_printedBy, .ref p_this_missing, .ref p_this_prints, .ref p_this_gutter, .int f_this_allMissed, .int f_this_allWanted, .int f_this_allPrinted, .ref p_this_able, .ref p_this_planRow, .int f_this_seens, .ref p_this_seenLine, .ref p_this_seenMany, .ref p_this_missedBy, .ref p_this_isThere, .ref p_this_forms, .ref p_this_sizes, .ref p_this_items, .ref p_this_moved, .int f_this_finding], jai G p_this_now 9 c_this_now, jai G p_this_hitMany 16 d75, jai G p_this_hitPass 192 d76, jai G p_this_hitNozzle 192 d77, jai G p_this_hitPrints 192 d78] 136 [] []) → ∀ (n : Nat) (i80 : Int32) (w81 : Nat → Int32) (w82 : Nat → Int32) (w83 : Nat → Int32) (w84 : Nat → Int32), wq_X4_findsHits_23 c_this_now post Ke_136 n i80 w81 w82 w83 w84 → jx k G A 5 0 0 [job p_this 4 [.ref p_this_told, .ref p_this_head, .int f_this_events, .ref p_this_eventKind, .ref p_this_eventAt, .ref p_this_eventNozzle, .ref p_this_dots, .ref p_this_now, .int f_this_notEvents, .int f_this_deadNow, .ref p_this_hitMany, .ref p_this_hitPass, .ref p_this_hitNozzle, .ref p_this_hitPrints, .ref p_this_canMany, .ref p_this_printedBy, .ref p_this_missing, .ref p_this_prints, .ref p_this_gutter, .int f_this_allMissed, .int f_this_allWanted, .int f_this_allPrinted, .ref p_this_able, .ref p_this_planRow, .int f_this_seens, .ref p_this_seenLine, .ref p_this_seenMany, .ref p_this_missedBy, .ref p_this_isThere, .ref p_this_forms, .ref p_this_sizes, .ref p_this_items, .ref p_this_moved, .int f_this_finding], jai G p_this_now 9 c_this_now, jai G p_this_hitMany 16 w81, jai G p_this_hitPass 192 w82, jai G p_this_hitNozzle 192 w83, jai G p_this_hitPrints 192 w84] 23 [(0, .ref p_this), (1, .int i80)] [] := by
    intro Ke_136 hE_136 n
    induction n with
    | zero =>
      intro _ _ _ _ _ h
      exact h.elim
    | succ n ih =>
      intro i80 w81 w82 w83 w84 h
      unfold wq_X4_findsHits_23 at h
      refine jx_iload_n hk dX4_findsHits_23 rfl 1 rfl ?_
      refine jx_aload_n hk dX4_findsHits_24 rfl 0 rfl ?_
      refine jx_get (C := RX4) (T := TX4) (N := 34) (ci := 4) (v := .ref p_this_now) hk hiX4 0 rfl rfl 7 (by decide) (List.mem_of_getElem? (i := 2) rfl) rfl dX4_findsHits_25 ?_
      refine jx_iconst (v := 3) hk dX4_findsHits_28 (by decide) ?_
      refine jx_ialoadC (j := 3) hk dX4_findsHits_29 1 rfl (by decide) ?_
      refine jx_icmp_ge (tgt := 136) hk dX4_findsHits_30 (by decide) (fun c85 => ?_) (fun c85 => ?_)
      · replace h := h.1 c85
        refine jx_lvs (lv' := []) [] rfl ?_
        exact hE_136 _ _ _ _ h
      · replace h := h.2 c85
        refine jx_iconst (v := 0) hk dX4_findsHits_33 (by decide) ?_
        refine jx_istore_n (lv' := [(2, .int (0 : Int32)), (0, .ref p_this), (1, .int i80)]) hk dX4_findsHits_34 rfl (by decide) rfl ?_
        obtain ⟨n92, h⟩ := h
        have L35 : ∀ (Ke_130 : (Nat → Int32) → (Nat → Int32) → (Nat → Int32) → (Nat → Int32) → Prop), (∀ (d86 : Nat → Int32) (d87 : Nat → Int32) (d88 : Nat → Int32) (d89 : Nat → Int32), Ke_130 d86 d87 d88 d89 → jx k G A 5 0 0 [job p_this 4 [.ref p_this_told, .ref p_this_head, .int f_this_events, .ref p_this_eventKind, .ref p_this_eventAt, .ref p_this_eventNozzle, .ref p_this_dots, .ref p_this_now, .int f_this_notEvents, .int f_this_deadNow, .ref p_this_hitMany, .ref p_this_hitPass, .ref p_this_hitNozzle, .ref p_this_hitPrints, .ref p_this_canMany, .ref p_this_printedBy, .ref p_this_missing, .ref p_this_prints, .ref p_this_gutter, .int f_this_allMissed, .int f_this_allWanted, .int f_this_allPrinted, .ref p_this_able, .ref p_this_planRow, .int f_this_seens, .ref p_this_seenLine, .ref p_this_seenMany, .ref p_this_missedBy, .ref p_this_isThere, .ref p_this_forms, .ref p_this_sizes, .ref p_this_items, .ref p_this_moved, .int f_this_finding], jai G p_this_now 9 c_this_now, jai G p_this_hitMany 16 d86, jai G p_this_hitPass 192 d87, jai G p_this_hitNozzle 192 d88, jai G p_this_hitPrints 192 d89] 130 [(0, .ref p_this), (1, .int i80)] []) → ∀ (n : Nat) (i93 : Int32) (w94 : Nat → Int32) (w95 : Nat → Int32) (w96 : Nat → Int32) (w97 : Nat → Int32), wq_X4_findsHits_35 c_this_now i80 post Ke_130 n i93 w94 w95 w96 w97 → jx k G A 5 0 0 [job p_this 4 [.ref p_this_told, .ref p_this_head, .int f_this_events, .ref p_this_eventKind, .ref p_this_eventAt, .ref p_this_eventNozzle, .ref p_this_dots, .ref p_this_now, .int f_this_notEvents, .int f_this_deadNow, .ref p_this_hitMany, .ref p_this_hitPass, .ref p_this_hitNozzle, .ref p_this_hitPrints, .ref p_this_canMany, .ref p_this_printedBy, .ref p_this_missing, .ref p_this_prints, .ref p_this_gutter, .int f_this_allMissed, .int f_this_allWanted, .int f_this_allPrinted, .ref p_this_able, .ref p_this_planRow, .int f_this_seens, .ref p_this_seenLine, .ref p_this_seenMany, .ref p_this_missedBy, .ref p_this_isThere, .ref p_this_forms, .ref p_this_sizes, .ref p_this_items, .ref p_this_moved, .int f_this_finding], jai G p_this_now 9 c_this_now, jai G p_this_hitMany 16 w94, jai G p_this_hitPass 192 w95, jai G p_this_hitNozzle 192 w96, jai G p_this_hitPrints 192 w97] 35 [(0, .ref p_this), (1, .int i80), (2, .int i93)] [] := by
          intro Ke_130 hE_130 n
          induction n with
          | zero =>
            intro _ _ _ _ _ h
            exact h.elim
          | succ n ih =>
            intro i93 w94 w95 w96 w97 h
            unfold wq_X4_findsHits_35 at h
            refine jx_iload_n hk dX4_findsHits_35 rfl 2 rfl ?_
            refine jx_aload_n hk dX4_findsHits_36 rfl 0 rfl ?_
            refine jx_get (C := RX4) (T := TX4) (N := 34) (ci := 4) (v := .ref p_this_now) hk hiX4 0 rfl rfl 7 (by decide) (List.mem_of_getElem? (i := 2) rfl) rfl dX4_findsHits_37 ?_
            refine jx_iconst (v := 0) hk dX4_findsHits_40 (by decide) ?_
            refine jx_ialoadC (j := 0) hk dX4_findsHits_41 1 rfl (by decide) ?_
            refine jx_icmp_ge (tgt := 130) hk dX4_findsHits_42 (by decide) (fun c98 => ?_) (fun c98 => ?_)
            · replace h := h.1 c98
              refine jx_lvs (lv' := [(0, .ref p_this), (1, .int i80)]) [0, 1] rfl ?_
              exact hE_130 _ _ _ _ h
            · replace h := h.2 c98
              refine jx_aload_n hk dX4_findsHits_45 rfl 0 rfl ?_
              refine jx_get (C := RX4) (T := TX4) (N := 34) (ci := 4) (v := .ref p_this_now) hk hiX4 0 rfl rfl 7 (by decide) (List.mem_of_getElem? (i := 2) rfl) rfl dX4_findsHits_46 ?_
              refine jx_iconst (v := 4) hk dX4_findsHits_49 (by decide) ?_
              refine jx_ialoadC (j := 4) hk dX4_findsHits_50 1 rfl (by decide) ?_
              refine jx_topi (fun v99 e100 => ?_)
              replace h := h v99 e100
              refine jx_iload_n hk dX4_findsHits_51 rfl 1 rfl ?_
              refine jx_aload_n hk dX4_findsHits_52 rfl 0 rfl ?_
              refine jx_get (C := RX4) (T := TX4) (N := 34) (ci := 4) (v := .ref p_this_now) hk hiX4 0 rfl rfl 7 (by decide) (List.mem_of_getElem? (i := 2) rfl) rfl dX4_findsHits_53 ?_
              refine jx_iconst (v := 2) hk dX4_findsHits_56 (by decide) ?_
              refine jx_ialoadC (j := 2) hk dX4_findsHits_57 1 rfl (by decide) ?_
              refine jx_imul hk dX4_findsHits_58 ?_
              refine jx_iadd hk dX4_findsHits_59 ?_
              refine jx_topi (fun v101 e102 => ?_)
              replace h := h v101 e102
              refine jx_iload_n hk dX4_findsHits_60 rfl 2 rfl ?_
              refine jx_aload_n hk dX4_findsHits_61 rfl 0 rfl ?_
              refine jx_get (C := RX4) (T := TX4) (N := 34) (ci := 4) (v := .ref p_this_now) hk hiX4 0 rfl rfl 7 (by decide) (List.mem_of_getElem? (i := 2) rfl) rfl dX4_findsHits_62 ?_
              refine jx_iconst (v := 1) hk dX4_findsHits_65 (by decide) ?_
              refine jx_ialoadC (j := 1) hk dX4_findsHits_66 1 rfl (by decide) ?_
              refine jx_imul hk dX4_findsHits_67 ?_
              refine jx_iadd hk dX4_findsHits_68 ?_
              refine jx_topi (fun v103 e104 => ?_)
              replace h := h v103 e104
              refine jx_istore_n (lv' := [(3, .int v103), (0, .ref p_this), (1, .int i80), (2, .int i93)]) hk dX4_findsHits_69 rfl (by decide) rfl ?_
              refine jx_iload_n hk dX4_findsHits_70 rfl 0 rfl ?_
              refine jx_callSi (wr := [job p_this 4 [.ref p_this_told, .ref p_this_head, .int f_this_events, .ref p_this_eventKind, .ref p_this_eventAt, .ref p_this_eventNozzle, .ref p_this_dots, .ref p_this_now, .int f_this_notEvents, .int f_this_deadNow, .ref p_this_hitMany, .ref p_this_hitPass, .ref p_this_hitNozzle, .ref p_this_hitPrints, .ref p_this_canMany, .ref p_this_printedBy, .ref p_this_missing, .ref p_this_prints, .ref p_this_gutter, .int f_this_allMissed, .int f_this_allWanted, .int f_this_allPrinted, .ref p_this_able, .ref p_this_planRow, .int f_this_seens, .ref p_this_seenLine, .ref p_this_seenMany, .ref p_this_missedBy, .ref p_this_isThere, .ref p_this_forms, .ref p_this_sizes, .ref p_this_items, .ref p_this_moved, .int f_this_finding], jai G p_this_now 9 c_this_now, jai G p_this_hitMany 16 w94, jai G p_this_hitPass 192 w95, jai G p_this_hitNozzle 192 w96, jai G p_this_hitPrints 192 w97]) (ws2 := fun u105 => [job p_this 4 [.ref p_this_told, .ref p_this_head, .int f_this_events, .ref p_this_eventKind, .ref p_this_eventAt, .ref p_this_eventNozzle, .ref p_this_dots, .ref p_this_now, .int f_this_notEvents, .int f_this_deadNow, .ref p_this_hitMany, .ref p_this_hitPass, .ref p_this_hitNozzle, .ref p_this_hitPrints, .ref p_this_canMany, .ref p_this_printedBy, .ref p_this_missing, .ref p_this_prints, .ref p_this_gutter, .int f_this_allMissed, .int f_this_allWanted, .int f_this_allPrinted, .ref p_this_able, .ref p_this_planRow, .int f_this_seens, .ref p_this_seenLine, .ref p_this_seenMany, .ref p_this_missedBy, .ref p_this_isThere, .ref p_this_forms, .ref p_this_sizes, .ref p_this_items, .ref p_this_moved, .int f_this_finding], jai G p_this_now 9 c_this_now, jai G p_this_hitMany 16 w94, jai G p_this_hitPass 192 w95, jai G p_this_hitNozzle 192 w96, jai G p_this_hitPrints 192 w97]) hk (c_X4_isLine l G v103 _ h) gX4_findsHits_X4_isLine nd0_X4_isLine rfl rfl rfl ⟨Nat.le_of_ble_eq_true rfl, Nat.le_of_ble_eq_true rfl⟩ [] [0, 1, 2, 3, 4, 5] [0, 1, 2, 3, 4, 5] rfl rfl rfl rfl (by decide) rfl (fun _ => rfl) dX4_findsHits_71 rfl (Nat.le_of_ble_eq_true rfl) ⟨Nat.zero_le _, Nat.zero_le _⟩ (fun r106 u105 h => ?_)
              refine jx_if_eq (tgt := 124) hk dX4_findsHits_74 (by decide) (fun c107 => ?_) (fun c107 => ?_)
              · replace h := h.1 c107
                refine jx_iincN (lvf := fun vq => [(2, .int vq), (3, .int v103), (0, .ref p_this), (1, .int i80)]) (c := 1) hk dX4_findsHits_124 3 rfl (by decide) (by decide) (fun _ => rfl) (fun v108 e109 => ?_)
                replace h := h v108 e109
                refine jx_goto (tgt := 35) hk dX4_findsHits_127 (by decide) ?_
                refine jx_lvs (lv' := [(0, .ref p_this), (1, .int i80), (2, .int v108)]) [2, 3, 0] rfl ?_
                exact ih _ _ _ _ _ h
              · replace h := h.2 c107
                refine jx_bipush (v := 12) hk dX4_findsHits_77 (by decide) ?_
                refine jx_iload_n hk dX4_findsHits_79 rfl 0 rfl ?_
                refine jx_imul hk dX4_findsHits_80 ?_
                refine jx_topi (fun v110 e111 => ?_)
                replace h := h v110 e111
                refine jx_aload_n hk dX4_findsHits_81 rfl 1 rfl ?_
                refine jx_get (C := RX4) (T := TX4) (N := 34) (ci := 4) (v := .ref p_this_hitMany) hk hiX4 0 rfl rfl 10 (by decide) (List.mem_of_getElem? (i := 1) rfl) rfl dX4_findsHits_82 ?_
                refine jx_iload_n hk dX4_findsHits_85 rfl 0 rfl ?_
                obtain ⟨b112, h⟩ := h
                refine jx_iaload hk dX4_findsHits_86 2 rfl b112 ?_
                refine jx_iadd hk dX4_findsHits_87 ?_
                refine jx_topi (fun v113 e114 => ?_)
                replace h := h v113 e114
                refine jx_istore (lv' := [(4, .int v113), (3, .int v103), (0, .ref p_this), (1, .int i80), (2, .int i93)]) hk dX4_findsHits_88 (by decide) rfl ?_
                refine jx_aload_n hk dX4_findsHits_90 rfl 2 rfl ?_
                refine jx_get (C := RX4) (T := TX4) (N := 34) (ci := 4) (v := .ref p_this_hitPass) hk hiX4 0 rfl rfl 11 (by decide) (List.mem_of_getElem? (i := 3) rfl) rfl dX4_findsHits_91 ?_
                refine jx_iload hk dX4_findsHits_94 0 rfl ?_
                refine jx_iload_n hk dX4_findsHits_96 rfl 3 rfl ?_
                obtain ⟨b115, h⟩ := h
                refine jx_iastore (ws' := [job p_this 4 [.ref p_this_told, .ref p_this_head, .int f_this_events, .ref p_this_eventKind, .ref p_this_eventAt, .ref p_this_eventNozzle, .ref p_this_dots, .ref p_this_now, .int f_this_notEvents, .int f_this_deadNow, .ref p_this_hitMany, .ref p_this_hitPass, .ref p_this_hitNozzle, .ref p_this_hitPrints, .ref p_this_canMany, .ref p_this_printedBy, .ref p_this_missing, .ref p_this_prints, .ref p_this_gutter, .int f_this_allMissed, .int f_this_allWanted, .int f_this_allPrinted, .ref p_this_able, .ref p_this_planRow, .int f_this_seens, .ref p_this_seenLine, .ref p_this_seenMany, .ref p_this_missedBy, .ref p_this_isThere, .ref p_this_forms, .ref p_this_sizes, .ref p_this_items, .ref p_this_moved, .int f_this_finding], jai G p_this_now 9 c_this_now, jai G p_this_hitMany 16 w94, jai G p_this_hitPass 192 (upd w95 v113.toNatClampNeg i80), jai G p_this_hitNozzle 192 w96, jai G p_this_hitPrints 192 w97]) hk dX4_findsHits_97 3 rfl b115 rfl ?_
                refine jx_aload_n hk dX4_findsHits_98 rfl 2 rfl ?_
                refine jx_get (C := RX4) (T := TX4) (N := 34) (ci := 4) (v := .ref p_this_hitNozzle) hk hiX4 0 rfl rfl 12 (by decide) (List.mem_of_getElem? (i := 4) rfl) rfl dX4_findsHits_99 ?_
                refine jx_iload hk dX4_findsHits_102 0 rfl ?_
                refine jx_iload_n hk dX4_findsHits_104 rfl 4 rfl ?_
                obtain ⟨b116, h⟩ := h
                refine jx_iastore (ws' := [job p_this 4 [.ref p_this_told, .ref p_this_head, .int f_this_events, .ref p_this_eventKind, .ref p_this_eventAt, .ref p_this_eventNozzle, .ref p_this_dots, .ref p_this_now, .int f_this_notEvents, .int f_this_deadNow, .ref p_this_hitMany, .ref p_this_hitPass, .ref p_this_hitNozzle, .ref p_this_hitPrints, .ref p_this_canMany, .ref p_this_printedBy, .ref p_this_missing, .ref p_this_prints, .ref p_this_gutter, .int f_this_allMissed, .int f_this_allWanted, .int f_this_allPrinted, .ref p_this_able, .ref p_this_planRow, .int f_this_seens, .ref p_this_seenLine, .ref p_this_seenMany, .ref p_this_missedBy, .ref p_this_isThere, .ref p_this_forms, .ref p_this_sizes, .ref p_this_items, .ref p_this_moved, .int f_this_finding], jai G p_this_now 9 c_this_now, jai G p_this_hitMany 16 w94, jai G p_this_hitPass 192 (upd w95 v113.toNatClampNeg i80), jai G p_this_hitNozzle 192 (upd w96 v113.toNatClampNeg i93), jai G p_this_hitPrints 192 w97]) hk dX4_findsHits_105 4 rfl b116 rfl ?_
                refine jx_aload_n hk dX4_findsHits_106 rfl 2 rfl ?_
                refine jx_get (C := RX4) (T := TX4) (N := 34) (ci := 4) (v := .ref p_this_hitPrints) hk hiX4 0 rfl rfl 13 (by decide) (List.mem_of_getElem? (i := 5) rfl) rfl dX4_findsHits_107 ?_
                refine jx_iload hk dX4_findsHits_110 0 rfl ?_
                refine jx_iconst (v := 0) hk dX4_findsHits_112 (by decide) ?_
                obtain ⟨b117, h⟩ := h
                refine jx_iastore (ws' := [job p_this 4 [.ref p_this_told, .ref p_this_head, .int f_this_events, .ref p_this_eventKind, .ref p_this_eventAt, .ref p_this_eventNozzle, .ref p_this_dots, .ref p_this_now, .int f_this_notEvents, .int f_this_deadNow, .ref p_this_hitMany, .ref p_this_hitPass, .ref p_this_hitNozzle, .ref p_this_hitPrints, .ref p_this_canMany, .ref p_this_printedBy, .ref p_this_missing, .ref p_this_prints, .ref p_this_gutter, .int f_this_allMissed, .int f_this_allWanted, .int f_this_allPrinted, .ref p_this_able, .ref p_this_planRow, .int f_this_seens, .ref p_this_seenLine, .ref p_this_seenMany, .ref p_this_missedBy, .ref p_this_isThere, .ref p_this_forms, .ref p_this_sizes, .ref p_this_items, .ref p_this_moved, .int f_this_finding], jai G p_this_now 9 c_this_now, jai G p_this_hitMany 16 w94, jai G p_this_hitPass 192 (upd w95 v113.toNatClampNeg i80), jai G p_this_hitNozzle 192 (upd w96 v113.toNatClampNeg i93), jai G p_this_hitPrints 192 (upd w97 v113.toNatClampNeg (0 : Int32))]) hk dX4_findsHits_113 5 rfl b117 rfl ?_
                refine jx_aload_n hk dX4_findsHits_114 rfl 2 rfl ?_
                refine jx_get (C := RX4) (T := TX4) (N := 34) (ci := 4) (v := .ref p_this_hitMany) hk hiX4 0 rfl rfl 10 (by decide) (List.mem_of_getElem? (i := 1) rfl) rfl dX4_findsHits_115 ?_
                refine jx_iload_n hk dX4_findsHits_118 rfl 1 rfl ?_
                refine jx_dup2_11 hk dX4_findsHits_119 rfl rfl ?_
                obtain ⟨b118, h⟩ := h
                refine jx_iaload hk dX4_findsHits_120 2 rfl b118 ?_
                refine jx_topi (fun v119 e120 => ?_)
                replace h := h v119 e120
                refine jx_iconst (v := 1) hk dX4_findsHits_121 (by decide) ?_
                refine jx_iadd hk dX4_findsHits_122 ?_
                refine jx_topi (fun v121 e122 => ?_)
                replace h := h v121 e122
                obtain ⟨b123, h⟩ := h
                refine jx_iastore (ws' := [job p_this 4 [.ref p_this_told, .ref p_this_head, .int f_this_events, .ref p_this_eventKind, .ref p_this_eventAt, .ref p_this_eventNozzle, .ref p_this_dots, .ref p_this_now, .int f_this_notEvents, .int f_this_deadNow, .ref p_this_hitMany, .ref p_this_hitPass, .ref p_this_hitNozzle, .ref p_this_hitPrints, .ref p_this_canMany, .ref p_this_printedBy, .ref p_this_missing, .ref p_this_prints, .ref p_this_gutter, .int f_this_allMissed, .int f_this_allWanted, .int f_this_allPrinted, .ref p_this_able, .ref p_this_planRow, .int f_this_seens, .ref p_this_seenLine, .ref p_this_seenMany, .ref p_this_missedBy, .ref p_this_isThere, .ref p_this_forms, .ref p_this_sizes, .ref p_this_items, .ref p_this_moved, .int f_this_finding], jai G p_this_now 9 c_this_now, jai G p_this_hitMany 16 (upd w94 v103.toNatClampNeg v121), jai G p_this_hitPass 192 (upd w95 v113.toNatClampNeg i80), jai G p_this_hitNozzle 192 (upd w96 v113.toNatClampNeg i93), jai G p_this_hitPrints 192 (upd w97 v113.toNatClampNeg (0 : Int32))]) hk dX4_findsHits_123 2 rfl b123 rfl ?_
                refine jx_iincN (lvf := fun vq => [(2, .int vq), (4, .int v113), (3, .int v103), (0, .ref p_this), (1, .int i80)]) (c := 1) hk dX4_findsHits_124 4 rfl (by decide) (by decide) (fun _ => rfl) (fun v124 e125 => ?_)
                replace h := h v124 e125
                refine jx_goto (tgt := 35) hk dX4_findsHits_127 (by decide) ?_
                refine jx_lvs (lv' := [(0, .ref p_this), (1, .int i80), (2, .int v124)]) [3, 4, 0] rfl ?_
                exact ih _ _ _ _ _ h
        refine jx_lvs (lv' := [(0, .ref p_this), (1, .int i80), (2, .int (0 : Int32))]) [1, 2, 0] rfl ?_
        refine L35 _ ?_ n92 _ _ _ _ _ h
        intro d86 d87 d88 d89 h
        refine jx_iincN (lvf := fun vq => [(1, .int vq), (0, .ref p_this)]) (c := 1) hk dX4_findsHits_130 1 rfl (by decide) (by decide) (fun _ => rfl) (fun v90 e91 => ?_)
        replace h := h v90 e91
        refine jx_goto (tgt := 23) hk dX4_findsHits_133 (by decide) ?_
        refine jx_lvs (lv' := [(0, .ref p_this), (1, .int v90)]) [1, 0] rfl ?_
        exact ih _ _ _ _ _ h
  refine jx_lvs (lv' := [(0, .ref p_this), (1, .int (0 : Int32))]) [1, 0] rfl ?_
  refine L23 _ ?_ n79 _ _ _ _ _ h
  intro d75 d76 d77 d78 h
  exact hret (d75, d76, d77, d78) _ _ dX4_findsHits_136 h
