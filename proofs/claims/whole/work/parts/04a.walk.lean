set_option maxHeartbeats 4000000 in
set_option maxRecDepth 100000 in
theorem c_X0_add (l : Launch) (G : jG) (p_this p_this_kinds p_this_passes p_this_nozzles : Nat) (f_this_size : Int32) (c_this_kinds : Nat → Int32) (c_this_passes : Nat → Int32) (c_this_nozzles : Nat → Int32) (x1 : Int32) (x2 : Int32) (x3 : Int32) (post : (Int32 × (Nat → Int32) × (Nat → Int32) × (Nat → Int32)) → Prop) (h : wp_X0_add x1 x2 x3 f_this_size c_this_kinds c_this_passes c_this_nozzles post) : jmv l yX0_add wsX0_add { frames := 0, cells := 0, slots := 0, locals := 0 } G [.ref p_this, .int x1, .int x2, .int x3] [job p_this 0 [.ref p_this_kinds, .ref p_this_passes, .ref p_this_nozzles, .int f_this_size], jai G p_this_kinds 8 c_this_kinds, jai G p_this_passes 8 c_this_passes, jai G p_this_nozzles 8 c_this_nozzles] (fun u : Int32 × (Nat → Int32) × (Nat → Int32) × (Nat → Int32) => [job p_this 0 [.ref p_this_kinds, .ref p_this_passes, .ref p_this_nozzles, .int u.1], jai G p_this_kinds 8 u.2.1, jai G p_this_passes 8 u.2.2.1, jai G p_this_nozzles 8 u.2.2.2]) post 0 0 := by
  refine jm_v (cc := cX0_add) (maxL := 4) (by decide) rfl (Nat.le_of_ble_eq_true rfl) ?_
  intro k A hk hin hret
  unfold wp_X0_add at h
  have hiX0 : ∀ w ∈ u_ws RX0 TX0 4, w ∈ wsX0_add := (fun w h => List.mem_cons_of_mem _ (List.mem_append_right _ h))
  show jx k G A 4 0 0 [job p_this 0 [.ref p_this_kinds, .ref p_this_passes, .ref p_this_nozzles, .int f_this_size], jai G p_this_kinds 8 c_this_kinds, jai G p_this_passes 8 c_this_passes, jai G p_this_nozzles 8 c_this_nozzles] 0 [(0, .ref p_this), (1, .int x1), (2, .int x2), (3, .int x3)] []
  refine jx_aload_n hk dX0_add_0 rfl 0 rfl ?_
  refine jx_get (C := RX0) (T := TX0) (N := 4) (ci := 0) (v := .ref p_this_kinds) hk hiX0 0 rfl rfl 0 (by decide) (List.mem_of_getElem? (i := 1) rfl) rfl dX0_add_1 ?_
  refine jx_aload_n hk dX0_add_4 rfl 0 rfl ?_
  refine jx_get (C := RX0) (T := TX0) (N := 4) (ci := 0) (v := .int f_this_size) hk hiX0 0 rfl rfl 3 (by decide) (List.mem_of_getElem? (i := 2) rfl) rfl dX0_add_5 ?_
  refine jx_iload_n hk dX0_add_8 rfl 1 rfl ?_
  obtain ⟨b1, h⟩ := h
  refine jx_iastore (ws' := [job p_this 0 [.ref p_this_kinds, .ref p_this_passes, .ref p_this_nozzles, .int f_this_size], jai G p_this_kinds 8 (upd c_this_kinds f_this_size.toNatClampNeg x1), jai G p_this_passes 8 c_this_passes, jai G p_this_nozzles 8 c_this_nozzles]) hk dX0_add_9 1 rfl b1 rfl ?_
  refine jx_aload_n hk dX0_add_10 rfl 0 rfl ?_
  refine jx_get (C := RX0) (T := TX0) (N := 4) (ci := 0) (v := .ref p_this_passes) hk hiX0 0 rfl rfl 1 (by decide) (List.mem_of_getElem? (i := 3) rfl) rfl dX0_add_11 ?_
  refine jx_aload_n hk dX0_add_14 rfl 0 rfl ?_
  refine jx_get (C := RX0) (T := TX0) (N := 4) (ci := 0) (v := .int f_this_size) hk hiX0 0 rfl rfl 3 (by decide) (List.mem_of_getElem? (i := 2) rfl) rfl dX0_add_15 ?_
  refine jx_iload_n hk dX0_add_18 rfl 2 rfl ?_
  obtain ⟨b2, h⟩ := h
  refine jx_iastore (ws' := [job p_this 0 [.ref p_this_kinds, .ref p_this_passes, .ref p_this_nozzles, .int f_this_size], jai G p_this_kinds 8 (upd c_this_kinds f_this_size.toNatClampNeg x1), jai G p_this_passes 8 (upd c_this_passes f_this_size.toNatClampNeg x2), jai G p_this_nozzles 8 c_this_nozzles]) hk dX0_add_19 2 rfl b2 rfl ?_
  refine jx_aload_n hk dX0_add_20 rfl 0 rfl ?_
  refine jx_get (C := RX0) (T := TX0) (N := 4) (ci := 0) (v := .ref p_this_nozzles) hk hiX0 0 rfl rfl 2 (by decide) (List.mem_of_getElem? (i := 4) rfl) rfl dX0_add_21 ?_
  refine jx_aload_n hk dX0_add_24 rfl 0 rfl ?_
  refine jx_get (C := RX0) (T := TX0) (N := 4) (ci := 0) (v := .int f_this_size) hk hiX0 0 rfl rfl 3 (by decide) (List.mem_of_getElem? (i := 2) rfl) rfl dX0_add_25 ?_
  refine jx_iload_n hk dX0_add_28 rfl 3 rfl ?_
  obtain ⟨b3, h⟩ := h
  refine jx_iastore (ws' := [job p_this 0 [.ref p_this_kinds, .ref p_this_passes, .ref p_this_nozzles, .int f_this_size], jai G p_this_kinds 8 (upd c_this_kinds f_this_size.toNatClampNeg x1), jai G p_this_passes 8 (upd c_this_passes f_this_size.toNatClampNeg x2), jai G p_this_nozzles 8 (upd c_this_nozzles f_this_size.toNatClampNeg x3)]) hk dX0_add_29 3 rfl b3 rfl ?_
  refine jx_aload_n hk dX0_add_30 rfl 0 rfl ?_
  refine jx_dup hk dX0_add_31 rfl ?_
  refine jx_get (C := RX0) (T := TX0) (N := 4) (ci := 0) (v := .int f_this_size) hk hiX0 0 rfl rfl 3 (by decide) (List.mem_of_getElem? (i := 2) rfl) rfl dX0_add_32 ?_
  refine jx_iconst (v := 1) hk dX0_add_35 (by decide) ?_
  refine jx_iadd hk dX0_add_36 ?_
  refine jx_topi (fun v4 e5 => ?_)
  replace h := h v4 e5
  refine jx_put (C := RX0) (T := TX0) (N := 4) (ci := 0) (v := .int v4) (ty := .int) (ws' := [job p_this 0 [.ref p_this_kinds, .ref p_this_passes, .ref p_this_nozzles, .int v4], jai G p_this_kinds 8 (upd c_this_kinds f_this_size.toNatClampNeg x1), jai G p_this_passes 8 (upd c_this_passes f_this_size.toNatClampNeg x2), jai G p_this_nozzles 8 (upd c_this_nozzles f_this_size.toNatClampNeg x3)]) hk hiX0 tyX0 tyX0_ok nmX0 0 rfl rfl 3 (by decide) (List.mem_of_getElem? (i := 2) rfl) rfl (tyX0_ok 3 (by decide)) rfl rfl (Nat.le_of_ble_eq_true rfl) dX0_add_37 rfl ?_
  exact hret (v4, upd c_this_kinds f_this_size.toNatClampNeg x1, upd c_this_passes f_this_size.toNatClampNeg x2, upd c_this_nozzles f_this_size.toNatClampNeg x3) _ _ dX0_add_40 h
set_option maxHeartbeats 4000000 in
set_option maxRecDepth 100000 in
theorem c_X0_all (l : Launch) (G : jG) (p_this p_this_kinds p_this_passes p_this_nozzles : Nat) (f_this_size : Int32) (post : Int32 → Unit → Prop) (h : wp_X0_all f_this_size post) : jmi l yX0_all wsX0_all { frames := 0, cells := 0, slots := 0, locals := 0 } G [.ref p_this] [job p_this 0 [.ref p_this_kinds, .ref p_this_passes, .ref p_this_nozzles, .int f_this_size]] (fun u : Unit => [job p_this 0 [.ref p_this_kinds, .ref p_this_passes, .ref p_this_nozzles, .int f_this_size]]) post 0 0 := by
  refine jm_i (cc := cX0_all) (maxL := 1) (by decide) rfl (Nat.le_of_ble_eq_true rfl) ?_
  intro k A hk hin hret
  unfold wp_X0_all at h
  have hiX0 : ∀ w ∈ u_ws RX0 TX0 4, w ∈ wsX0_all := (fun w h => List.mem_cons_of_mem _ (List.mem_append_right _ h))
  show jx k G A 1 0 0 [job p_this 0 [.ref p_this_kinds, .ref p_this_passes, .ref p_this_nozzles, .int f_this_size]] 0 [(0, .ref p_this)] []
  refine jx_iconst (v := 1) hk dX0_all_0 (by decide) ?_
  refine jx_aload_n hk dX0_all_1 rfl 0 rfl ?_
  refine jx_get (C := RX0) (T := TX0) (N := 4) (ci := 0) (v := .int f_this_size) hk hiX0 0 rfl rfl 3 (by decide) (List.mem_of_getElem? (i := 1) rfl) rfl dX0_all_2 ?_
  refine jx_ishl hk dX0_all_5 ?_
  refine jx_topi (fun v1 e2 => ?_)
  replace h := h v1 e2
  refine jx_iconst (v := 1) hk dX0_all_6 (by decide) ?_
  refine jx_isub hk dX0_all_7 ?_
  exact hret (v1 - (1 : Int32)) () _ _ dX0_all_8 h
set_option maxHeartbeats 4000000 in
set_option maxRecDepth 100000 in
theorem c_J7_fill_53178 (l : Launch) (G : jG) (p_a0 : Nat) (n_a0 : Nat) (c_a0 : Nat → Int32) (x1 : Int32) (post : ((Nat → Int32)) → Prop) (h : wp_J7_fill_53178 n_a0 x1 c_a0 post) : jmv l yJ7_fill_53178 wsJ7_fill_53178 { frames := 0, cells := 0, slots := 0, locals := 0 } G [.ref p_a0, .int x1] [jai G p_a0 n_a0 c_a0] (fun u : (Nat → Int32) => [jai G p_a0 n_a0 u]) post 0 0 := by
  refine jm_v (cc := cJ7_fill_53178) (maxL := 4) (by decide) rfl (Nat.le_of_ble_eq_true rfl) ?_
  intro k A hk hin hret
  unfold wp_J7_fill_53178 at h
  show jx k G A 4 0 0 [jai G p_a0 n_a0 c_a0] 0 [(0, .ref p_a0), (1, .int x1)] []
  refine jx_iconst (v := 0) hk dJ7_fill_53178_0 (by decide) ?_
  refine jx_istore_n (lv' := [(2, .int (0 : Int32)), (0, .ref p_a0), (1, .int x1)]) hk dJ7_fill_53178_1 rfl (by decide) rfl ?_
  refine jx_aload_n hk dJ7_fill_53178_2 rfl 1 rfl ?_
  refine jx_ilen (v := nI n_a0) hk dJ7_fill_53178_3 0 rfl rfl ?_
  refine jx_topi (fun v5 e6 => ?_)
  replace h := h v5 e6
  refine jx_istore_n (lv' := [(3, .int v5), (2, .int (0 : Int32)), (0, .ref p_a0), (1, .int x1)]) hk dJ7_fill_53178_4 rfl (by decide) rfl ?_
  obtain ⟨n8, h⟩ := h
  have L5 : ∀ (Ke_20 : (Nat → Int32) → Prop), (∀ (d7 : Nat → Int32), Ke_20 d7 → jx k G A 4 0 0 [jai G p_a0 n_a0 d7] 20 [] []) → ∀ (n : Nat) (i9 : Int32) (w10 : Nat → Int32), wq_J7_fill_53178_5 n_a0 x1 v5 post Ke_20 n i9 w10 → jx k G A 4 0 0 [jai G p_a0 n_a0 w10] 5 [(0, .ref p_a0), (1, .int x1), (2, .int i9), (3, .int v5)] [] := by
    intro Ke_20 hE_20 n
    induction n with
    | zero =>
      intro _ _ h
      exact h.elim
    | succ n ih =>
      intro i9 w10 h
      unfold wq_J7_fill_53178_5 at h
      refine jx_iload_n hk dJ7_fill_53178_5 rfl 2 rfl ?_
      refine jx_iload_n hk dJ7_fill_53178_6 rfl 3 rfl ?_
      refine jx_icmp_ge (tgt := 20) hk dJ7_fill_53178_7 (by decide) (fun c11 => ?_) (fun c11 => ?_)
      · replace h := h.1 c11
        refine jx_lvs (lv' := []) [] rfl ?_
        exact hE_20 _ h
      · replace h := h.2 c11
        refine jx_aload_n hk dJ7_fill_53178_10 rfl 0 rfl ?_
        refine jx_iload_n hk dJ7_fill_53178_11 rfl 2 rfl ?_
        refine jx_iload_n hk dJ7_fill_53178_12 rfl 1 rfl ?_
        obtain ⟨b12, h⟩ := h
        refine jx_iastore (ws' := [jai G p_a0 n_a0 (upd w10 i9.toNatClampNeg x1)]) hk dJ7_fill_53178_13 0 rfl b12 rfl ?_
        refine jx_iincN (lvf := fun vq => [(2, .int vq), (0, .ref p_a0), (1, .int x1), (3, .int v5)]) (c := 1) hk dJ7_fill_53178_14 2 rfl (by decide) (by decide) (fun _ => rfl) (fun v13 e14 => ?_)
        replace h := h v13 e14
        refine jx_goto (tgt := 5) hk dJ7_fill_53178_17 (by decide) ?_
        refine jx_lvs (lv' := [(0, .ref p_a0), (1, .int x1), (2, .int v13), (3, .int v5)]) [1, 2, 0, 3] rfl ?_
        exact ih _ _ h
  refine jx_lvs (lv' := [(0, .ref p_a0), (1, .int x1), (2, .int (0 : Int32)), (3, .int v5)]) [2, 3, 1, 0] rfl ?_
  refine L5 _ ?_ n8 _ _ h
  intro d7 h
  exact hret d7 _ _ dJ7_fill_53178_20 h
set_option maxHeartbeats 4000000 in
set_option maxRecDepth 100000 in
theorem c_X0_apply (l : Launch) (G : jG) (p_this p_this_kinds p_this_passes p_this_nozzles p_a2 : Nat) (f_this_size : Int32) (c_this_kinds : Nat → Int32) (c_this_passes : Nat → Int32) (c_this_nozzles : Nat → Int32) (c_a2 : Nat → Int32) (x1 : Int32) (post : ((Nat → Int32)) → Prop) (h : wp_X0_apply x1 c_this_kinds c_this_passes c_this_nozzles c_a2 post) : jmv l yX0_apply wsX0_apply { frames := 0, cells := 0, slots := 0, locals := 0 } G [.ref p_this, .int x1, .ref p_a2] [job p_this 0 [.ref p_this_kinds, .ref p_this_passes, .ref p_this_nozzles, .int f_this_size], jai G p_this_kinds 8 c_this_kinds, jai G p_this_passes 8 c_this_passes, jai G p_this_nozzles 8 c_this_nozzles, jai G p_a2 8 c_a2] (fun u : (Nat → Int32) => [job p_this 0 [.ref p_this_kinds, .ref p_this_passes, .ref p_this_nozzles, .int f_this_size], jai G p_this_kinds 8 c_this_kinds, jai G p_this_passes 8 c_this_passes, jai G p_this_nozzles 8 c_this_nozzles, jai G p_a2 8 u]) post 0 0 := by
  refine jm_v (cc := cX0_apply) (maxL := 4) (by decide) rfl (Nat.le_of_ble_eq_true rfl) ?_
  intro k A hk hin hret
  unfold wp_X0_apply at h
  have hiX0 : ∀ w ∈ u_ws RX0 TX0 4, w ∈ wsX0_apply := (fun w h => List.mem_cons_of_mem _ (List.mem_append_right _ h))
  show jx k G A 4 0 0 [job p_this 0 [.ref p_this_kinds, .ref p_this_passes, .ref p_this_nozzles, .int f_this_size], jai G p_this_kinds 8 c_this_kinds, jai G p_this_passes 8 c_this_passes, jai G p_this_nozzles 8 c_this_nozzles, jai G p_a2 8 c_a2] 0 [(0, .ref p_this), (1, .int x1), (2, .ref p_a2)] []
  refine jx_sipush (v := 4095) hk dX0_apply_0 (by decide) ?_
  refine jx_aload_n hk dX0_apply_3 rfl 0 rfl ?_
  refine jx_get (C := RX0) (T := TX0) (N := 4) (ci := 0) (v := .ref p_this_passes) hk hiX0 0 rfl rfl 1 (by decide) (List.mem_of_getElem? (i := 1) rfl) rfl dX0_apply_4 ?_
  refine jx_iload_n hk dX0_apply_7 rfl 1 rfl ?_
  obtain ⟨b1, h⟩ := h
  refine jx_iaload hk dX0_apply_8 2 rfl b1 ?_
  refine jx_ishl hk dX0_apply_9 ?_
  refine jx_topi (fun v2 e3 => ?_)
  replace h := h v2 e3
  refine jx_sipush (v := 4095) hk dX0_apply_10 (by decide) ?_
  refine jx_iand hk dX0_apply_13 ?_
  refine jx_topi (fun v4 e5 => ?_)
  replace h := h v4 e5
  refine jx_istore_n (lv' := [(3, .int v4), (0, .ref p_this), (1, .int x1), (2, .ref p_a2)]) hk dX0_apply_14 rfl (by decide) rfl ?_
  refine jx_aload_n hk dX0_apply_15 rfl 1 rfl ?_
  refine jx_get (C := RX0) (T := TX0) (N := 4) (ci := 0) (v := .ref p_this_kinds) hk hiX0 0 rfl rfl 0 (by decide) (List.mem_of_getElem? (i := 2) rfl) rfl dX0_apply_16 ?_
  refine jx_iload_n hk dX0_apply_19 rfl 2 rfl ?_
  obtain ⟨b6, h⟩ := h
  refine jx_iaload hk dX0_apply_20 1 rfl b6 ?_
  refine jx_if_ne (tgt := 41) hk dX0_apply_21 (by decide) (fun c7 => ?_) (fun c7 => ?_)
  · replace h := h.1 c7
    refine jx_aload_n hk dX0_apply_41 rfl 3 rfl ?_
    refine jx_aload_n hk dX0_apply_42 rfl 1 rfl ?_
    refine jx_get (C := RX0) (T := TX0) (N := 4) (ci := 0) (v := .ref p_this_nozzles) hk hiX0 0 rfl rfl 2 (by decide) (List.mem_of_getElem? (i := 3) rfl) rfl dX0_apply_43 ?_
    refine jx_iload_n hk dX0_apply_46 rfl 2 rfl ?_
    obtain ⟨b8, h⟩ := h
    refine jx_iaload hk dX0_apply_47 3 rfl b8 ?_
    refine jx_topi (fun v9 e10 => ?_)
    replace h := h v9 e10
    refine jx_dup2_11 hk dX0_apply_48 rfl rfl ?_
    obtain ⟨b11, h⟩ := h
    refine jx_iaload hk dX0_apply_49 4 rfl b11 ?_
    refine jx_topi (fun v12 e13 => ?_)
    replace h := h v12 e13
    refine jx_iload_n hk dX0_apply_50 rfl 0 rfl ?_
    refine jx_ior hk dX0_apply_51 ?_
    refine jx_topi (fun v14 e15 => ?_)
    replace h := h v14 e15
    obtain ⟨b16, h⟩ := h
    refine jx_iastore (ws' := [job p_this 0 [.ref p_this_kinds, .ref p_this_passes, .ref p_this_nozzles, .int f_this_size], jai G p_this_kinds 8 c_this_kinds, jai G p_this_passes 8 c_this_passes, jai G p_this_nozzles 8 c_this_nozzles, jai G p_a2 8 (upd c_a2 v9.toNatClampNeg v14)]) hk dX0_apply_52 4 rfl b16 rfl ?_
    exact hret (upd c_a2 v9.toNatClampNeg v14) _ _ dX0_apply_53 h
  · replace h := h.2 c7
    refine jx_aload_n hk dX0_apply_24 rfl 3 rfl ?_
    refine jx_aload_n hk dX0_apply_25 rfl 1 rfl ?_
    refine jx_get (C := RX0) (T := TX0) (N := 4) (ci := 0) (v := .ref p_this_nozzles) hk hiX0 0 rfl rfl 2 (by decide) (List.mem_of_getElem? (i := 3) rfl) rfl dX0_apply_26 ?_
    refine jx_iload_n hk dX0_apply_29 rfl 2 rfl ?_
    obtain ⟨b17, h⟩ := h
    refine jx_iaload hk dX0_apply_30 3 rfl b17 ?_
    refine jx_topi (fun v18 e19 => ?_)
    replace h := h v18 e19
    refine jx_dup2_11 hk dX0_apply_31 rfl rfl ?_
    obtain ⟨b20, h⟩ := h
    refine jx_iaload hk dX0_apply_32 4 rfl b20 ?_
    refine jx_topi (fun v21 e22 => ?_)
    replace h := h v21 e22
    refine jx_iload_n hk dX0_apply_33 rfl 0 rfl ?_
    refine jx_iconst (v := (-1)) hk dX0_apply_34 (by decide) ?_
    refine jx_ixor hk dX0_apply_35 ?_
    refine jx_iand hk dX0_apply_36 ?_
    refine jx_topi (fun v23 e24 => ?_)
    replace h := h v23 e24
    obtain ⟨b25, h⟩ := h
    refine jx_iastore (ws' := [job p_this 0 [.ref p_this_kinds, .ref p_this_passes, .ref p_this_nozzles, .int f_this_size], jai G p_this_kinds 8 c_this_kinds, jai G p_this_passes 8 c_this_passes, jai G p_this_nozzles 8 c_this_nozzles, jai G p_a2 8 (upd c_a2 v18.toNatClampNeg v23)]) hk dX0_apply_37 4 rfl b25 rfl ?_
    refine jx_goto (tgt := 53) hk dX0_apply_38 (by decide) ?_
    exact hret (upd c_a2 v18.toNatClampNeg v23) _ _ dX0_apply_53 h
set_option maxHeartbeats 4000000 in
set_option maxRecDepth 100000 in
theorem c_X0_livingBy (l : Launch) (G : jG) (p_this p_this_kinds p_this_passes p_this_nozzles p_a2 : Nat) (f_this_size : Int32) (c_this_kinds : Nat → Int32) (c_this_passes : Nat → Int32) (c_this_nozzles : Nat → Int32) (c_a2 : Nat → Int32) (x1 : Int32) (post : ((Nat → Int32)) → Prop) (h : wp_X0_livingBy x1 f_this_size c_this_kinds c_this_passes c_this_nozzles c_a2 post) : jmv l yX0_livingBy wsX0_livingBy { frames := 1, cells := 0, slots := 0, locals := 23 } G [.ref p_this, .int x1, .ref p_a2] [job p_this 0 [.ref p_this_kinds, .ref p_this_passes, .ref p_this_nozzles, .int f_this_size], jai G p_this_kinds 8 c_this_kinds, jai G p_this_passes 8 c_this_passes, jai G p_this_nozzles 8 c_this_nozzles, jai G p_a2 8 c_a2] (fun u : (Nat → Int32) => [job p_this 0 [.ref p_this_kinds, .ref p_this_passes, .ref p_this_nozzles, .int f_this_size], jai G p_this_kinds 8 c_this_kinds, jai G p_this_passes 8 c_this_passes, jai G p_this_nozzles 8 c_this_nozzles, jai G p_a2 8 u]) post 0 0 := by
  refine jm_v (cc := cX0_livingBy) (maxL := 5) (by decide) rfl (Nat.le_of_ble_eq_true rfl) ?_
  intro k A hk hin hret
  unfold wp_X0_livingBy at h
  have hiX0 : ∀ w ∈ u_ws RX0 TX0 4, w ∈ wsX0_livingBy := (fun w h => List.mem_cons_of_mem _ (List.mem_append_right _ h))
  show jx k G A 5 0 0 [job p_this 0 [.ref p_this_kinds, .ref p_this_passes, .ref p_this_nozzles, .int f_this_size], jai G p_this_kinds 8 c_this_kinds, jai G p_this_passes 8 c_this_passes, jai G p_this_nozzles 8 c_this_nozzles, jai G p_a2 8 c_a2] 0 [(0, .ref p_this), (1, .int x1), (2, .ref p_a2)] []
  refine jx_aload_n hk dX0_livingBy_0 rfl 2 rfl ?_
  refine jx_sipush (v := 4095) hk dX0_livingBy_1 (by decide) ?_
  refine jx_callSv (wr := [job p_this 0 [.ref p_this_kinds, .ref p_this_passes, .ref p_this_nozzles, .int f_this_size], jai G p_this_kinds 8 c_this_kinds, jai G p_this_passes 8 c_this_passes, jai G p_this_nozzles 8 c_this_nozzles]) (ws2 := fun u44 => [job p_this 0 [.ref p_this_kinds, .ref p_this_passes, .ref p_this_nozzles, .int f_this_size], jai G p_this_kinds 8 c_this_kinds, jai G p_this_passes 8 c_this_passes, jai G p_this_nozzles 8 c_this_nozzles, jai G p_a2 8 u44]) hk (c_J7_fill_53178 l G p_a2 8 c_a2 (4095 : Int32) _ h) gX0_livingBy_J7_fill_53178 nd0_J7_fill_53178 rfl rfl rfl ⟨Nat.le_of_ble_eq_true rfl, Nat.le_of_ble_eq_true rfl⟩ [4] [0, 1, 2, 3] [0, 1, 2, 3, 4] rfl rfl rfl rfl (by decide) rfl (fun _ => rfl) dX0_livingBy_4 rfl (Nat.le_of_ble_eq_true rfl) ⟨Nat.zero_le _, Nat.zero_le _⟩ (fun u44 h => ?_)
  refine jx_iconst (v := 0) hk dX0_livingBy_7 (by decide) ?_
  refine jx_istore_n (lv' := [(3, .int (0 : Int32)), (0, .ref p_this), (1, .int x1), (2, .ref p_a2)]) hk dX0_livingBy_8 rfl (by decide) rfl ?_
  obtain ⟨n47, h⟩ := h
  have L9 : ∀ (Ke_67 : (Nat → Int32) → Prop), (∀ (d46 : Nat → Int32), Ke_67 d46 → jx k G A 5 0 0 [job p_this 0 [.ref p_this_kinds, .ref p_this_passes, .ref p_this_nozzles, .int f_this_size], jai G p_this_kinds 8 c_this_kinds, jai G p_this_passes 8 c_this_passes, jai G p_this_nozzles 8 c_this_nozzles, jai G p_a2 8 d46] 67 [] []) → ∀ (n : Nat) (i48 : Int32) (w49 : Nat → Int32), wq_X0_livingBy_9 f_this_size c_this_kinds c_this_passes c_this_nozzles x1 post Ke_67 n i48 w49 → jx k G A 5 0 0 [job p_this 0 [.ref p_this_kinds, .ref p_this_passes, .ref p_this_nozzles, .int f_this_size], jai G p_this_kinds 8 c_this_kinds, jai G p_this_passes 8 c_this_passes, jai G p_this_nozzles 8 c_this_nozzles, jai G p_a2 8 w49] 9 [(0, .ref p_this), (1, .int x1), (2, .ref p_a2), (3, .int i48)] [] := by
    intro Ke_67 hE_67 n
    induction n with
    | zero =>
      intro _ _ h
      exact h.elim
    | succ n ih =>
      intro i48 w49 h
      unfold wq_X0_livingBy_9 at h
      refine jx_iload_n hk dX0_livingBy_9 rfl 3 rfl ?_
      refine jx_bipush (v := 12) hk dX0_livingBy_10 (by decide) ?_
      refine jx_icmp_ge (tgt := 67) hk dX0_livingBy_12 (by decide) (fun c50 => ?_) (fun c50 => ?_)
      · replace h := h.1 c50
        refine jx_lvs (lv' := []) [] rfl ?_
        exact hE_67 _ h
      · replace h := h.2 c50
        refine jx_iconst (v := 0) hk dX0_livingBy_15 (by decide) ?_
        refine jx_istore (lv' := [(4, .int (0 : Int32)), (0, .ref p_this), (1, .int x1), (2, .ref p_a2), (3, .int i48)]) hk dX0_livingBy_16 (by decide) rfl ?_
        obtain ⟨n54, h⟩ := h
        have L18 : ∀ (Ke_61 : (Nat → Int32) → Prop), (∀ (d51 : Nat → Int32), Ke_61 d51 → jx k G A 5 0 0 [job p_this 0 [.ref p_this_kinds, .ref p_this_passes, .ref p_this_nozzles, .int f_this_size], jai G p_this_kinds 8 c_this_kinds, jai G p_this_passes 8 c_this_passes, jai G p_this_nozzles 8 c_this_nozzles, jai G p_a2 8 d51] 61 [(0, .ref p_this), (1, .int x1), (2, .ref p_a2), (3, .int i48)] []) → ∀ (n : Nat) (i55 : Int32) (w56 : Nat → Int32), wq_X0_livingBy_18 f_this_size c_this_kinds c_this_passes c_this_nozzles x1 i48 post Ke_61 n i55 w56 → jx k G A 5 0 0 [job p_this 0 [.ref p_this_kinds, .ref p_this_passes, .ref p_this_nozzles, .int f_this_size], jai G p_this_kinds 8 c_this_kinds, jai G p_this_passes 8 c_this_passes, jai G p_this_nozzles 8 c_this_nozzles, jai G p_a2 8 w56] 18 [(0, .ref p_this), (1, .int x1), (2, .ref p_a2), (3, .int i48), (4, .int i55)] [] := by
          intro Ke_61 hE_61 n
          induction n with
          | zero =>
            intro _ _ h
            exact h.elim
          | succ n ih =>
            intro i55 w56 h
            unfold wq_X0_livingBy_18 at h
            refine jx_iload hk dX0_livingBy_18 4 rfl ?_
            refine jx_aload_n hk dX0_livingBy_20 rfl 0 rfl ?_
            refine jx_get (C := RX0) (T := TX0) (N := 4) (ci := 0) (v := .int f_this_size) hk hiX0 0 rfl rfl 3 (by decide) (List.mem_of_getElem? (i := 1) rfl) rfl dX0_livingBy_21 ?_
            refine jx_icmp_ge (tgt := 61) hk dX0_livingBy_24 (by decide) (fun c57 => ?_) (fun c57 => ?_)
            · replace h := h.1 c57
              refine jx_lvs (lv' := [(0, .ref p_this), (1, .int x1), (2, .ref p_a2), (3, .int i48)]) [0, 1, 2, 3] rfl ?_
              exact hE_61 _ h
            · replace h := h.2 c57
              refine jx_aload_n hk dX0_livingBy_27 rfl 0 rfl ?_
              refine jx_get (C := RX0) (T := TX0) (N := 4) (ci := 0) (v := .ref p_this_passes) hk hiX0 0 rfl rfl 1 (by decide) (List.mem_of_getElem? (i := 2) rfl) rfl dX0_livingBy_28 ?_
              refine jx_iload hk dX0_livingBy_31 4 rfl ?_
              obtain ⟨b58, h⟩ := h
              refine jx_iaload hk dX0_livingBy_33 2 rfl b58 ?_
              refine jx_topi (fun v59 e60 => ?_)
              replace h := h v59 e60
              refine jx_iload_n hk dX0_livingBy_34 rfl 3 rfl ?_
              refine jx_icmp_ne (tgt := 55) hk dX0_livingBy_35 (by decide) (fun c61 => ?_) (fun c61 => ?_)
              · replace h := h.1 c61
                refine jx_iincN (lvf := fun vq => [(4, .int vq), (0, .ref p_this), (1, .int x1), (2, .ref p_a2), (3, .int i48)]) (c := 1) hk dX0_livingBy_55 4 rfl (by decide) (by decide) (fun _ => rfl) (fun v62 e63 => ?_)
                replace h := h v62 e63
                refine jx_goto (tgt := 18) hk dX0_livingBy_58 (by decide) ?_
                refine jx_lvs (lv' := [(0, .ref p_this), (1, .int x1), (2, .ref p_a2), (3, .int i48), (4, .int v62)]) [1, 2, 3, 4, 0] rfl ?_
                exact ih _ _ h
              · replace h := h.2 c61
                refine jx_iload_n hk dX0_livingBy_38 rfl 1 rfl ?_
                refine jx_iload hk dX0_livingBy_39 4 rfl ?_
                refine jx_ishr hk dX0_livingBy_41 ?_
                refine jx_topi (fun v64 e65 => ?_)
                replace h := h v64 e65
                refine jx_iconst (v := 1) hk dX0_livingBy_42 (by decide) ?_
                refine jx_iand hk dX0_livingBy_43 ?_
                refine jx_topi (fun v66 e67 => ?_)
                replace h := h v66 e67
                refine jx_iconst (v := 1) hk dX0_livingBy_44 (by decide) ?_
                refine jx_icmp_ne (tgt := 55) hk dX0_livingBy_45 (by decide) (fun c68 => ?_) (fun c68 => ?_)
                · replace h := h.1 c68
                  refine jx_iincN (lvf := fun vq => [(4, .int vq), (0, .ref p_this), (1, .int x1), (2, .ref p_a2), (3, .int i48)]) (c := 1) hk dX0_livingBy_55 4 rfl (by decide) (by decide) (fun _ => rfl) (fun v69 e70 => ?_)
                  replace h := h v69 e70
                  refine jx_goto (tgt := 18) hk dX0_livingBy_58 (by decide) ?_
                  refine jx_lvs (lv' := [(0, .ref p_this), (1, .int x1), (2, .ref p_a2), (3, .int i48), (4, .int v69)]) [1, 2, 3, 4, 0] rfl ?_
                  exact ih _ _ h
                · replace h := h.2 c68
                  refine jx_aload_n hk dX0_livingBy_48 rfl 0 rfl ?_
                  refine jx_iload hk dX0_livingBy_49 4 rfl ?_
                  refine jx_aload_n hk dX0_livingBy_51 rfl 2 rfl ?_
                  refine jx_callVv (wr := []) (ws2 := fun u71 => [job p_this 0 [.ref p_this_kinds, .ref p_this_passes, .ref p_this_nozzles, .int f_this_size], jai G p_this_kinds 8 c_this_kinds, jai G p_this_passes 8 c_this_passes, jai G p_this_nozzles 8 c_this_nozzles, jai G p_a2 8 u71]) hk (c_X0_apply l G p_this p_this_kinds p_this_passes p_this_nozzles p_a2 f_this_size c_this_kinds c_this_passes c_this_nozzles w56 i55 _ h) 0 rfl rfl gX0_livingBy_X0_apply ndV_X0_apply rfl rfl rfl ⟨Nat.le_of_ble_eq_true rfl, Nat.le_of_ble_eq_true rfl⟩ [0, 1, 2, 3, 4] [] [0, 1, 2, 3, 4] rfl rfl rfl rfl (by decide) rfl (fun _ => rfl) dX0_livingBy_52 rfl (Nat.le_of_ble_eq_true rfl) ⟨Nat.zero_le _, Nat.zero_le _⟩ (fun u71 h => ?_)
                  refine jx_iincN (lvf := fun vq => [(4, .int vq), (0, .ref p_this), (1, .int x1), (2, .ref p_a2), (3, .int i48)]) (c := 1) hk dX0_livingBy_55 4 rfl (by decide) (by decide) (fun _ => rfl) (fun v73 e74 => ?_)
                  replace h := h v73 e74
                  refine jx_goto (tgt := 18) hk dX0_livingBy_58 (by decide) ?_
                  refine jx_lvs (lv' := [(0, .ref p_this), (1, .int x1), (2, .ref p_a2), (3, .int i48), (4, .int v73)]) [1, 2, 3, 4, 0] rfl ?_
                  exact ih _ _ h
        refine jx_lvs (lv' := [(0, .ref p_this), (1, .int x1), (2, .ref p_a2), (3, .int i48), (4, .int (0 : Int32))]) [1, 2, 3, 4, 0] rfl ?_
        refine L18 _ ?_ n54 _ _ h
        intro d51 h
        refine jx_iincN (lvf := fun vq => [(3, .int vq), (0, .ref p_this), (1, .int x1), (2, .ref p_a2)]) (c := 1) hk dX0_livingBy_61 3 rfl (by decide) (by decide) (fun _ => rfl) (fun v52 e53 => ?_)
        replace h := h v52 e53
        refine jx_goto (tgt := 9) hk dX0_livingBy_64 (by decide) ?_
        refine jx_lvs (lv' := [(0, .ref p_this), (1, .int x1), (2, .ref p_a2), (3, .int v52)]) [1, 2, 3, 0] rfl ?_
        exact ih _ _ h
  refine jx_lvs (lv' := [(0, .ref p_this), (1, .int x1), (2, .ref p_a2), (3, .int (0 : Int32))]) [1, 2, 3, 0] rfl ?_
  refine L9 _ ?_ n47 _ _ h
  intro d46 h
  exact hret d46 _ _ dX0_livingBy_67 h
set_option maxHeartbeats 4000000 in
set_option maxRecDepth 100000 in
theorem c_X1_takeInputs (l : Launch) (G : jG) (p_this p_this_picture p_this_head p_this_living p_this_hitCount p_this_hitPlace p_this_printingHit p_this_missedDots p_this_firstPass p_this_lastPass p_this_dotsPrinted p_this_gutter p_this_canColumns p_this_canCount p_a1 p_a1_picture p_a1_head p_a1_living p_a1_hitCount p_a1_hitPlace p_a1_printingHit p_a1_missedDots p_a1_firstPass p_a1_lastPass p_a1_dotsPrinted p_a1_gutter p_a1_canColumns p_a1_canCount : Nat) (f_this_strayed : Int32) (f_a1_strayed : Int32) (c_this_picture : Nat → Int32) (c_this_head : Nat → Int32) (c_this_living : Nat → Int32) (c_a1_picture : Nat → Int32) (c_a1_head : Nat → Int32) (c_a1_living : Nat → Int32) (post : ((Nat → Int32) × (Nat → Int32) × (Nat → Int32)) → Prop) (h : wp_X1_takeInputs c_this_picture c_this_head c_this_living c_a1_picture c_a1_head c_a1_living post) : jmv l yX1_takeInputs wsX1_takeInputs { frames := 1, cells := 0, slots := 0, locals := 40 } G [.ref p_this, .ref p_a1] [job p_this 1 [.ref p_this_picture, .ref p_this_head, .ref p_this_living, .ref p_this_hitCount, .ref p_this_hitPlace, .ref p_this_printingHit, .ref p_this_missedDots, .ref p_this_firstPass, .ref p_this_lastPass, .ref p_this_dotsPrinted, .ref p_this_gutter, .int f_this_strayed, .ref p_this_canColumns, .ref p_this_canCount], jai G p_this_picture 16 c_this_picture, jai G p_this_head 9 c_this_head, jai G p_this_living 8 c_this_living, job p_a1 1 [.ref p_a1_picture, .ref p_a1_head, .ref p_a1_living, .ref p_a1_hitCount, .ref p_a1_hitPlace, .ref p_a1_printingHit, .ref p_a1_missedDots, .ref p_a1_firstPass, .ref p_a1_lastPass, .ref p_a1_dotsPrinted, .ref p_a1_gutter, .int f_a1_strayed, .ref p_a1_canColumns, .ref p_a1_canCount], jai G p_a1_picture 16 c_a1_picture, jai G p_a1_head 9 c_a1_head, jai G p_a1_living 8 c_a1_living] (fun u : (Nat → Int32) × (Nat → Int32) × (Nat → Int32) => [job p_this 1 [.ref p_this_picture, .ref p_this_head, .ref p_this_living, .ref p_this_hitCount, .ref p_this_hitPlace, .ref p_this_printingHit, .ref p_this_missedDots, .ref p_this_firstPass, .ref p_this_lastPass, .ref p_this_dotsPrinted, .ref p_this_gutter, .int f_this_strayed, .ref p_this_canColumns, .ref p_this_canCount], jai G p_this_picture 16 u.1, jai G p_this_head 9 u.2.1, jai G p_this_living 8 u.2.2, job p_a1 1 [.ref p_a1_picture, .ref p_a1_head, .ref p_a1_living, .ref p_a1_hitCount, .ref p_a1_hitPlace, .ref p_a1_printingHit, .ref p_a1_missedDots, .ref p_a1_firstPass, .ref p_a1_lastPass, .ref p_a1_dotsPrinted, .ref p_a1_gutter, .int f_a1_strayed, .ref p_a1_canColumns, .ref p_a1_canCount], jai G p_a1_picture 16 c_a1_picture, jai G p_a1_head 9 c_a1_head, jai G p_a1_living 8 c_a1_living]) post 0 0 := by
  refine jm_v (cc := cX1_takeInputs) (maxL := 2) (by decide) rfl (Nat.le_of_ble_eq_true rfl) ?_
  intro k A hk hin hret
  unfold wp_X1_takeInputs at h
  have hiX1 : ∀ w ∈ u_ws RX1 TX1 14, w ∈ wsX1_takeInputs := (fun w h => List.mem_cons_of_mem _ (List.mem_append_right _ h))
  show jx k G A 2 0 0 [job p_this 1 [.ref p_this_picture, .ref p_this_head, .ref p_this_living, .ref p_this_hitCount, .ref p_this_hitPlace, .ref p_this_printingHit, .ref p_this_missedDots, .ref p_this_firstPass, .ref p_this_lastPass, .ref p_this_dotsPrinted, .ref p_this_gutter, .int f_this_strayed, .ref p_this_canColumns, .ref p_this_canCount], jai G p_this_picture 16 c_this_picture, jai G p_this_head 9 c_this_head, jai G p_this_living 8 c_this_living, job p_a1 1 [.ref p_a1_picture, .ref p_a1_head, .ref p_a1_living, .ref p_a1_hitCount, .ref p_a1_hitPlace, .ref p_a1_printingHit, .ref p_a1_missedDots, .ref p_a1_firstPass, .ref p_a1_lastPass, .ref p_a1_dotsPrinted, .ref p_a1_gutter, .int f_a1_strayed, .ref p_a1_canColumns, .ref p_a1_canCount], jai G p_a1_picture 16 c_a1_picture, jai G p_a1_head 9 c_a1_head, jai G p_a1_living 8 c_a1_living] 0 [(0, .ref p_this), (1, .ref p_a1)] []
  refine jx_aload_n hk dX1_takeInputs_0 rfl 1 rfl ?_
  refine jx_get (C := RX1) (T := TX1) (N := 14) (ci := 1) (v := .ref p_a1_picture) hk hiX1 4 rfl rfl 0 (by decide) (List.mem_of_getElem? (i := 1) rfl) rfl dX1_takeInputs_1 ?_
  refine jx_iconst (v := 0) hk dX1_takeInputs_4 (by decide) ?_
  refine jx_aload_n hk dX1_takeInputs_5 rfl 0 rfl ?_
  refine jx_get (C := RX1) (T := TX1) (N := 14) (ci := 1) (v := .ref p_this_picture) hk hiX1 0 rfl rfl 0 (by decide) (List.mem_of_getElem? (i := 1) rfl) rfl dX1_takeInputs_6 ?_
  refine jx_iconst (v := 0) hk dX1_takeInputs_9 (by decide) ?_
  refine jx_bipush (v := 16) hk dX1_takeInputs_10 (by decide) ?_
  obtain ⟨b1, b2, b3, b4, b5, h⟩ := h
  refine jx_copyi (ws' := [job p_this 1 [.ref p_this_picture, .ref p_this_head, .ref p_this_living, .ref p_this_hitCount, .ref p_this_hitPlace, .ref p_this_printingHit, .ref p_this_missedDots, .ref p_this_firstPass, .ref p_this_lastPass, .ref p_this_dotsPrinted, .ref p_this_gutter, .int f_this_strayed, .ref p_this_canColumns, .ref p_this_canCount], jai G p_this_picture 16 (va_cpy c_a1_picture c_this_picture (0 : Int32).toNatClampNeg (0 : Int32).toNatClampNeg (16 : Int32).toNatClampNeg), jai G p_this_head 9 c_this_head, jai G p_this_living 8 c_this_living, job p_a1 1 [.ref p_a1_picture, .ref p_a1_head, .ref p_a1_living, .ref p_a1_hitCount, .ref p_a1_hitPlace, .ref p_a1_printingHit, .ref p_a1_missedDots, .ref p_a1_firstPass, .ref p_a1_lastPass, .ref p_a1_dotsPrinted, .ref p_a1_gutter, .int f_a1_strayed, .ref p_a1_canColumns, .ref p_a1_canCount], jai G p_a1_picture 16 c_a1_picture, jai G p_a1_head 9 c_a1_head, jai G p_a1_living 8 c_a1_living]) hk dX1_takeInputs_12 (List.mem_of_getElem? (i := 2) rfl) (List.mem_of_getElem? (i := 3) rfl) (List.mem_of_getElem? (i := 4) rfl) (List.mem_of_getElem? (i := 5) rfl) 5 1 rfl rfl b1 b2 b3 b4 b5 (Nat.le_of_ble_eq_true rfl) (by decide +kernel) rfl ?_
  refine jx_aload_n hk dX1_takeInputs_15 rfl 1 rfl ?_
  refine jx_get (C := RX1) (T := TX1) (N := 14) (ci := 1) (v := .ref p_a1_head) hk hiX1 4 rfl rfl 1 (by decide) (List.mem_of_getElem? (i := 6) rfl) rfl dX1_takeInputs_16 ?_
  refine jx_iconst (v := 0) hk dX1_takeInputs_19 (by decide) ?_
  refine jx_aload_n hk dX1_takeInputs_20 rfl 0 rfl ?_
  refine jx_get (C := RX1) (T := TX1) (N := 14) (ci := 1) (v := .ref p_this_head) hk hiX1 0 rfl rfl 1 (by decide) (List.mem_of_getElem? (i := 6) rfl) rfl dX1_takeInputs_21 ?_
  refine jx_iconst (v := 0) hk dX1_takeInputs_24 (by decide) ?_
  refine jx_bipush (v := 9) hk dX1_takeInputs_25 (by decide) ?_
  obtain ⟨b6, b7, b8, b9, b10, h⟩ := h
  refine jx_copyi (ws' := [job p_this 1 [.ref p_this_picture, .ref p_this_head, .ref p_this_living, .ref p_this_hitCount, .ref p_this_hitPlace, .ref p_this_printingHit, .ref p_this_missedDots, .ref p_this_firstPass, .ref p_this_lastPass, .ref p_this_dotsPrinted, .ref p_this_gutter, .int f_this_strayed, .ref p_this_canColumns, .ref p_this_canCount], jai G p_this_picture 16 (va_cpy c_a1_picture c_this_picture (0 : Int32).toNatClampNeg (0 : Int32).toNatClampNeg (16 : Int32).toNatClampNeg), jai G p_this_head 9 (va_cpy c_a1_head c_this_head (0 : Int32).toNatClampNeg (0 : Int32).toNatClampNeg (9 : Int32).toNatClampNeg), jai G p_this_living 8 c_this_living, job p_a1 1 [.ref p_a1_picture, .ref p_a1_head, .ref p_a1_living, .ref p_a1_hitCount, .ref p_a1_hitPlace, .ref p_a1_printingHit, .ref p_a1_missedDots, .ref p_a1_firstPass, .ref p_a1_lastPass, .ref p_a1_dotsPrinted, .ref p_a1_gutter, .int f_a1_strayed, .ref p_a1_canColumns, .ref p_a1_canCount], jai G p_a1_picture 16 c_a1_picture, jai G p_a1_head 9 c_a1_head, jai G p_a1_living 8 c_a1_living]) hk dX1_takeInputs_27 (List.mem_of_getElem? (i := 2) rfl) (List.mem_of_getElem? (i := 3) rfl) (List.mem_of_getElem? (i := 4) rfl) (List.mem_of_getElem? (i := 5) rfl) 6 2 rfl rfl b6 b7 b8 b9 b10 (Nat.le_of_ble_eq_true rfl) (by decide +kernel) rfl ?_
  refine jx_aload_n hk dX1_takeInputs_30 rfl 1 rfl ?_
  refine jx_get (C := RX1) (T := TX1) (N := 14) (ci := 1) (v := .ref p_a1_living) hk hiX1 4 rfl rfl 2 (by decide) (List.mem_of_getElem? (i := 7) rfl) rfl dX1_takeInputs_31 ?_
  refine jx_iconst (v := 0) hk dX1_takeInputs_34 (by decide) ?_
  refine jx_aload_n hk dX1_takeInputs_35 rfl 0 rfl ?_
  refine jx_get (C := RX1) (T := TX1) (N := 14) (ci := 1) (v := .ref p_this_living) hk hiX1 0 rfl rfl 2 (by decide) (List.mem_of_getElem? (i := 7) rfl) rfl dX1_takeInputs_36 ?_
  refine jx_iconst (v := 0) hk dX1_takeInputs_39 (by decide) ?_
  refine jx_bipush (v := 8) hk dX1_takeInputs_40 (by decide) ?_
  obtain ⟨b11, b12, b13, b14, b15, h⟩ := h
  refine jx_copyi (ws' := [job p_this 1 [.ref p_this_picture, .ref p_this_head, .ref p_this_living, .ref p_this_hitCount, .ref p_this_hitPlace, .ref p_this_printingHit, .ref p_this_missedDots, .ref p_this_firstPass, .ref p_this_lastPass, .ref p_this_dotsPrinted, .ref p_this_gutter, .int f_this_strayed, .ref p_this_canColumns, .ref p_this_canCount], jai G p_this_picture 16 (va_cpy c_a1_picture c_this_picture (0 : Int32).toNatClampNeg (0 : Int32).toNatClampNeg (16 : Int32).toNatClampNeg), jai G p_this_head 9 (va_cpy c_a1_head c_this_head (0 : Int32).toNatClampNeg (0 : Int32).toNatClampNeg (9 : Int32).toNatClampNeg), jai G p_this_living 8 (va_cpy c_a1_living c_this_living (0 : Int32).toNatClampNeg (0 : Int32).toNatClampNeg (8 : Int32).toNatClampNeg), job p_a1 1 [.ref p_a1_picture, .ref p_a1_head, .ref p_a1_living, .ref p_a1_hitCount, .ref p_a1_hitPlace, .ref p_a1_printingHit, .ref p_a1_missedDots, .ref p_a1_firstPass, .ref p_a1_lastPass, .ref p_a1_dotsPrinted, .ref p_a1_gutter, .int f_a1_strayed, .ref p_a1_canColumns, .ref p_a1_canCount], jai G p_a1_picture 16 c_a1_picture, jai G p_a1_head 9 c_a1_head, jai G p_a1_living 8 c_a1_living]) hk dX1_takeInputs_42 (List.mem_of_getElem? (i := 2) rfl) (List.mem_of_getElem? (i := 3) rfl) (List.mem_of_getElem? (i := 4) rfl) (List.mem_of_getElem? (i := 5) rfl) 7 3 rfl rfl b11 b12 b13 b14 b15 (Nat.le_of_ble_eq_true rfl) (by decide +kernel) rfl ?_
  exact hret (va_cpy c_a1_picture c_this_picture (0 : Int32).toNatClampNeg (0 : Int32).toNatClampNeg (16 : Int32).toNatClampNeg, va_cpy c_a1_head c_this_head (0 : Int32).toNatClampNeg (0 : Int32).toNatClampNeg (9 : Int32).toNatClampNeg, va_cpy c_a1_living c_this_living (0 : Int32).toNatClampNeg (0 : Int32).toNatClampNeg (8 : Int32).toNatClampNeg) _ _ dX1_takeInputs_45 h
set_option maxHeartbeats 4000000 in
set_option maxRecDepth 100000 in
theorem c_X3_within (l : Launch) (G : jG) (x0 : Int32) (x1 : Int32) (x2 : Int32) (post : Int32 → Unit → Prop) (h : wp_X3_within x0 x1 x2 post) : jmi l yX3_within wsX3_within { frames := 0, cells := 0, slots := 0, locals := 0 } G [.int x0, .int x1, .int x2] [] (fun u : Unit => []) post 0 0 := by
  refine jm_z (cc := cX3_within) (maxL := 3) (by decide) rfl (Nat.le_of_ble_eq_true rfl) ?_
  intro k A hk hin hret
  unfold wp_X3_within at h
  show jx k G A 3 0 0 [] 0 [(0, .int x0), (1, .int x1), (2, .int x2)] []
  refine jx_iload_n hk dX3_within_0 rfl 0 rfl ?_
  refine jx_iload_n hk dX3_within_1 rfl 1 rfl ?_
  refine jx_icmp_lt (tgt := 14) hk dX3_within_2 (by decide) (fun c1 => ?_) (fun c1 => ?_)
  · replace h := h.1 c1
    refine jx_iconst (v := 0) hk dX3_within_14 (by decide) ?_
    exact hret (0 : Int32) () _ _ dX3_within_15 rfl h
  · replace h := h.2 c1
    refine jx_iload_n hk dX3_within_5 rfl 0 rfl ?_
    refine jx_iload_n hk dX3_within_6 rfl 2 rfl ?_
    refine jx_icmp_gt (tgt := 14) hk dX3_within_7 (by decide) (fun c2 => ?_) (fun c2 => ?_)
    · replace h := h.1 c2
      refine jx_iconst (v := 0) hk dX3_within_14 (by decide) ?_
      exact hret (0 : Int32) () _ _ dX3_within_15 rfl h
    · replace h := h.2 c2
      refine jx_iconst (v := 1) hk dX3_within_10 (by decide) ?_
      refine jx_goto (tgt := 15) hk dX3_within_11 (by decide) ?_
      exact hret (1 : Int32) () _ _ dX3_within_15 rfl h
set_option maxHeartbeats 4000000 in
set_option maxRecDepth 100000 in
theorem c_X3_isLine (l : Launch) (G : jG) (x0 : Int32) (post : Int32 → Unit → Prop) (h : wp_X3_isLine x0 post) : jmi l yX3_isLine wsX3_isLine { frames := 1, cells := 0, slots := 0, locals := 22 } G [.int x0] [] (fun u : Unit => []) post 0 0 := by
  refine jm_z (cc := cX3_isLine) (maxL := 1) (by decide) rfl (Nat.le_of_ble_eq_true rfl) ?_
  intro k A hk hin hret
  unfold wp_X3_isLine at h
  show jx k G A 1 0 0 [] 0 [(0, .int x0)] []
  refine jx_iload_n hk dX3_isLine_0 rfl 0 rfl ?_
  refine jx_iconst (v := 0) hk dX3_isLine_1 (by decide) ?_
  refine jx_bipush (v := 15) hk dX3_isLine_2 (by decide) ?_
  refine jx_callSi (wr := []) (ws2 := fun u1 => []) hk (c_X3_within l G x0 (0 : Int32) (15 : Int32) _ h) gX3_isLine_X3_within nd0_X3_within rfl rfl rfl ⟨Nat.le_of_ble_eq_true rfl, Nat.le_of_ble_eq_true rfl⟩ [] [] [] rfl rfl rfl rfl (by decide) rfl (fun _ => rfl) dX3_isLine_4 rfl (Nat.le_of_ble_eq_true rfl) ⟨Nat.zero_le _, Nat.zero_le _⟩ (fun r2 u1 h => ?_)
  exact hret r2 () _ _ dX3_isLine_7 (jx_bool h.1) h.2
set_option maxHeartbeats 4000000 in
set_option maxRecDepth 100000 in
theorem c_X1_layHits (l : Launch) (G : jG) (p_this p_this_picture p_this_head p_this_living p_this_hitCount p_this_hitPlace p_this_printingHit p_this_missedDots p_this_firstPass p_this_lastPass p_this_dotsPrinted p_this_gutter p_this_canColumns p_this_canCount : Nat) (f_this_strayed : Int32) (c_this_head : Nat → Int32) (c_this_hitCount : Nat → Int32) (c_this_hitPlace : Nat → Int32) (post : ((Nat → Int32) × (Nat → Int32)) → Prop) (h : wp_X1_layHits c_this_head c_this_hitCount c_this_hitPlace post) : jmv l yX1_layHits wsX1_layHits { frames := 2, cells := 0, slots := 0, locals := 42 } G [.ref p_this] [job p_this 1 [.ref p_this_picture, .ref p_this_head, .ref p_this_living, .ref p_this_hitCount, .ref p_this_hitPlace, .ref p_this_printingHit, .ref p_this_missedDots, .ref p_this_firstPass, .ref p_this_lastPass, .ref p_this_dotsPrinted, .ref p_this_gutter, .int f_this_strayed, .ref p_this_canColumns, .ref p_this_canCount], jai G p_this_head 9 c_this_head, jai G p_this_hitCount 16 c_this_hitCount, jai G p_this_hitPlace 192 c_this_hitPlace] (fun u : (Nat → Int32) × (Nat → Int32) => [job p_this 1 [.ref p_this_picture, .ref p_this_head, .ref p_this_living, .ref p_this_hitCount, .ref p_this_hitPlace, .ref p_this_printingHit, .ref p_this_missedDots, .ref p_this_firstPass, .ref p_this_lastPass, .ref p_this_dotsPrinted, .ref p_this_gutter, .int f_this_strayed, .ref p_this_canColumns, .ref p_this_canCount], jai G p_this_head 9 c_this_head, jai G p_this_hitCount 16 u.1, jai G p_this_hitPlace 192 u.2]) post 0 0 := by
  refine jm_v (cc := cX1_layHits) (maxL := 4) (by decide) rfl (Nat.le_of_ble_eq_true rfl) ?_
  intro k A hk hin hret
  unfold wp_X1_layHits at h
  have hiX1 : ∀ w ∈ u_ws RX1 TX1 14, w ∈ wsX1_layHits := (fun w h => List.mem_cons_of_mem _ (List.mem_append_right _ h))
  show jx k G A 4 0 0 [job p_this 1 [.ref p_this_picture, .ref p_this_head, .ref p_this_living, .ref p_this_hitCount, .ref p_this_hitPlace, .ref p_this_printingHit, .ref p_this_missedDots, .ref p_this_firstPass, .ref p_this_lastPass, .ref p_this_dotsPrinted, .ref p_this_gutter, .int f_this_strayed, .ref p_this_canColumns, .ref p_this_canCount], jai G p_this_head 9 c_this_head, jai G p_this_hitCount 16 c_this_hitCount, jai G p_this_hitPlace 192 c_this_hitPlace] 0 [(0, .ref p_this)] []
  refine jx_aload_n hk dX1_layHits_0 rfl 0 rfl ?_
  refine jx_get (C := RX1) (T := TX1) (N := 14) (ci := 1) (v := .ref p_this_hitCount) hk hiX1 0 rfl rfl 3 (by decide) (List.mem_of_getElem? (i := 1) rfl) rfl dX1_layHits_1 ?_
  refine jx_iconst (v := 0) hk dX1_layHits_4 (by decide) ?_
  refine jx_callSv (wr := [job p_this 1 [.ref p_this_picture, .ref p_this_head, .ref p_this_living, .ref p_this_hitCount, .ref p_this_hitPlace, .ref p_this_printingHit, .ref p_this_missedDots, .ref p_this_firstPass, .ref p_this_lastPass, .ref p_this_dotsPrinted, .ref p_this_gutter, .int f_this_strayed, .ref p_this_canColumns, .ref p_this_canCount], jai G p_this_head 9 c_this_head, jai G p_this_hitPlace 192 c_this_hitPlace]) (ws2 := fun u82 => [job p_this 1 [.ref p_this_picture, .ref p_this_head, .ref p_this_living, .ref p_this_hitCount, .ref p_this_hitPlace, .ref p_this_printingHit, .ref p_this_missedDots, .ref p_this_firstPass, .ref p_this_lastPass, .ref p_this_dotsPrinted, .ref p_this_gutter, .int f_this_strayed, .ref p_this_canColumns, .ref p_this_canCount], jai G p_this_head 9 c_this_head, jai G p_this_hitCount 16 u82, jai G p_this_hitPlace 192 c_this_hitPlace]) hk (c_J7_fill_53178 l G p_this_hitCount 16 c_this_hitCount (0 : Int32) _ h) gX1_layHits_J7_fill_53178 nd0_J7_fill_53178 rfl rfl rfl ⟨Nat.le_of_ble_eq_true rfl, Nat.le_of_ble_eq_true rfl⟩ [2] [0, 1, 3] [0, 1, 3, 2] rfl rfl rfl rfl (by decide) rfl (fun _ => rfl) dX1_layHits_5 rfl (Nat.le_of_ble_eq_true rfl) ⟨Nat.zero_le _, Nat.zero_le _⟩ (fun u82 h => ?_)
  refine jx_iconst (v := 0) hk dX1_layHits_8 (by decide) ?_
  refine jx_istore_n (lv' := [(1, .int (0 : Int32)), (0, .ref p_this)]) hk dX1_layHits_9 rfl (by decide) rfl ?_
  obtain ⟨n86, h⟩ := h
  have L10 : ∀ (Ke_119 : (Nat → Int32) → (Nat → Int32) → Prop), (∀ (d84 : Nat → Int32) (d85 : Nat → Int32), Ke_119 d84 d85 → jx k G A 4 0 0 [job p_this 1 [.ref p_this_picture, .ref p_this_head, .ref p_this_living, .ref p_this_hitCount, .ref p_this_hitPlace, .ref p_this_printingHit, .ref p_this_missedDots, .ref p_this_firstPass, .ref p_this_lastPass, .ref p_this_dotsPrinted, .ref p_this_gutter, .int f_this_strayed, .ref p_this_canColumns, .ref p_this_canCount], jai G p_this_head 9 c_this_head, jai G p_this_hitCount 16 d84, jai G p_this_hitPlace 192 d85] 119 [] []) → ∀ (n : Nat) (i87 : Int32) (w88 : Nat → Int32) (w89 : Nat → Int32), wq_X1_layHits_10 c_this_head post Ke_119 n i87 w88 w89 → jx k G A 4 0 0 [job p_this 1 [.ref p_this_picture, .ref p_this_head, .ref p_this_living, .ref p_this_hitCount, .ref p_this_hitPlace, .ref p_this_printingHit, .ref p_this_missedDots, .ref p_this_firstPass, .ref p_this_lastPass, .ref p_this_dotsPrinted, .ref p_this_gutter, .int f_this_strayed, .ref p_this_canColumns, .ref p_this_canCount], jai G p_this_head 9 c_this_head, jai G p_this_hitCount 16 w88, jai G p_this_hitPlace 192 w89] 10 [(0, .ref p_this), (1, .int i87)] [] := by
    intro Ke_119 hE_119 n
    induction n with
    | zero =>
      intro _ _ _ h
      exact h.elim
    | succ n ih =>
      intro i87 w88 w89 h
      unfold wq_X1_layHits_10 at h
      refine jx_iload_n hk dX1_layHits_10 rfl 1 rfl ?_
      refine jx_aload_n hk dX1_layHits_11 rfl 0 rfl ?_
      refine jx_get (C := RX1) (T := TX1) (N := 14) (ci := 1) (v := .ref p_this_head) hk hiX1 0 rfl rfl 1 (by decide) (List.mem_of_getElem? (i := 2) rfl) rfl dX1_layHits_12 ?_
      refine jx_iconst (v := 3) hk dX1_layHits_15 (by decide) ?_
      refine jx_ialoadC (j := 3) hk dX1_layHits_16 1 rfl (by decide) ?_
      refine jx_icmp_ge (tgt := 119) hk dX1_layHits_17 (by decide) (fun c90 => ?_) (fun c90 => ?_)
      · replace h := h.1 c90
        refine jx_lvs (lv' := []) [] rfl ?_
        exact hE_119 _ _ h
      · replace h := h.2 c90
        refine jx_iconst (v := 0) hk dX1_layHits_20 (by decide) ?_
        refine jx_istore_n (lv' := [(2, .int (0 : Int32)), (0, .ref p_this), (1, .int i87)]) hk dX1_layHits_21 rfl (by decide) rfl ?_
        obtain ⟨n95, h⟩ := h
        have L22 : ∀ (Ke_113 : (Nat → Int32) → (Nat → Int32) → Prop), (∀ (d91 : Nat → Int32) (d92 : Nat → Int32), Ke_113 d91 d92 → jx k G A 4 0 0 [job p_this 1 [.ref p_this_picture, .ref p_this_head, .ref p_this_living, .ref p_this_hitCount, .ref p_this_hitPlace, .ref p_this_printingHit, .ref p_this_missedDots, .ref p_this_firstPass, .ref p_this_lastPass, .ref p_this_dotsPrinted, .ref p_this_gutter, .int f_this_strayed, .ref p_this_canColumns, .ref p_this_canCount], jai G p_this_head 9 c_this_head, jai G p_this_hitCount 16 d91, jai G p_this_hitPlace 192 d92] 113 [(0, .ref p_this), (1, .int i87)] []) → ∀ (n : Nat) (i96 : Int32) (w97 : Nat → Int32) (w98 : Nat → Int32), wq_X1_layHits_22 c_this_head i87 post Ke_113 n i96 w97 w98 → jx k G A 4 0 0 [job p_this 1 [.ref p_this_picture, .ref p_this_head, .ref p_this_living, .ref p_this_hitCount, .ref p_this_hitPlace, .ref p_this_printingHit, .ref p_this_missedDots, .ref p_this_firstPass, .ref p_this_lastPass, .ref p_this_dotsPrinted, .ref p_this_gutter, .int f_this_strayed, .ref p_this_canColumns, .ref p_this_canCount], jai G p_this_head 9 c_this_head, jai G p_this_hitCount 16 w97, jai G p_this_hitPlace 192 w98] 22 [(0, .ref p_this), (1, .int i87), (2, .int i96)] [] := by
          intro Ke_113 hE_113 n
          induction n with
          | zero =>
            intro _ _ _ h
            exact h.elim
          | succ n ih =>
            intro i96 w97 w98 h
            unfold wq_X1_layHits_22 at h
            refine jx_iload_n hk dX1_layHits_22 rfl 2 rfl ?_
            refine jx_aload_n hk dX1_layHits_23 rfl 0 rfl ?_
            refine jx_get (C := RX1) (T := TX1) (N := 14) (ci := 1) (v := .ref p_this_head) hk hiX1 0 rfl rfl 1 (by decide) (List.mem_of_getElem? (i := 2) rfl) rfl dX1_layHits_24 ?_
            refine jx_iconst (v := 0) hk dX1_layHits_27 (by decide) ?_
            refine jx_ialoadC (j := 0) hk dX1_layHits_28 1 rfl (by decide) ?_
            refine jx_icmp_ge (tgt := 113) hk dX1_layHits_29 (by decide) (fun c99 => ?_) (fun c99 => ?_)
            · replace h := h.1 c99
              refine jx_lvs (lv' := [(0, .ref p_this), (1, .int i87)]) [0, 1] rfl ?_
              exact hE_113 _ _ h
            · replace h := h.2 c99
              refine jx_aload_n hk dX1_layHits_32 rfl 0 rfl ?_
              refine jx_get (C := RX1) (T := TX1) (N := 14) (ci := 1) (v := .ref p_this_head) hk hiX1 0 rfl rfl 1 (by decide) (List.mem_of_getElem? (i := 2) rfl) rfl dX1_layHits_33 ?_
              refine jx_iconst (v := 4) hk dX1_layHits_36 (by decide) ?_
              refine jx_ialoadC (j := 4) hk dX1_layHits_37 1 rfl (by decide) ?_
              refine jx_topi (fun v100 e101 => ?_)
              replace h := h v100 e101
              refine jx_iload_n hk dX1_layHits_38 rfl 1 rfl ?_
              refine jx_aload_n hk dX1_layHits_39 rfl 0 rfl ?_
              refine jx_get (C := RX1) (T := TX1) (N := 14) (ci := 1) (v := .ref p_this_head) hk hiX1 0 rfl rfl 1 (by decide) (List.mem_of_getElem? (i := 2) rfl) rfl dX1_layHits_40 ?_
              refine jx_iconst (v := 2) hk dX1_layHits_43 (by decide) ?_
              refine jx_ialoadC (j := 2) hk dX1_layHits_44 1 rfl (by decide) ?_
              refine jx_imul hk dX1_layHits_45 ?_
              refine jx_iadd hk dX1_layHits_46 ?_
              refine jx_topi (fun v102 e103 => ?_)
              replace h := h v102 e103
              refine jx_iload_n hk dX1_layHits_47 rfl 2 rfl ?_
              refine jx_aload_n hk dX1_layHits_48 rfl 0 rfl ?_
              refine jx_get (C := RX1) (T := TX1) (N := 14) (ci := 1) (v := .ref p_this_head) hk hiX1 0 rfl rfl 1 (by decide) (List.mem_of_getElem? (i := 2) rfl) rfl dX1_layHits_49 ?_
              refine jx_iconst (v := 1) hk dX1_layHits_52 (by decide) ?_
              refine jx_ialoadC (j := 1) hk dX1_layHits_53 1 rfl (by decide) ?_
              refine jx_imul hk dX1_layHits_54 ?_
              refine jx_iadd hk dX1_layHits_55 ?_
              refine jx_topi (fun v104 e105 => ?_)
              replace h := h v104 e105
              refine jx_istore_n (lv' := [(3, .int v104), (0, .ref p_this), (1, .int i87), (2, .int i96)]) hk dX1_layHits_56 rfl (by decide) rfl ?_
              refine jx_iload_n hk dX1_layHits_57 rfl 0 rfl ?_
              refine jx_callSNi (wr := [job p_this 1 [.ref p_this_picture, .ref p_this_head, .ref p_this_living, .ref p_this_hitCount, .ref p_this_hitPlace, .ref p_this_printingHit, .ref p_this_missedDots, .ref p_this_firstPass, .ref p_this_lastPass, .ref p_this_dotsPrinted, .ref p_this_gutter, .int f_this_strayed, .ref p_this_canColumns, .ref p_this_canCount], jai G p_this_head 9 c_this_head, jai G p_this_hitCount 16 w97, jai G p_this_hitPlace 192 w98]) (ws2 := fun u106 => [job p_this 1 [.ref p_this_picture, .ref p_this_head, .ref p_this_living, .ref p_this_hitCount, .ref p_this_hitPlace, .ref p_this_printingHit, .ref p_this_missedDots, .ref p_this_firstPass, .ref p_this_lastPass, .ref p_this_dotsPrinted, .ref p_this_gutter, .int f_this_strayed, .ref p_this_canColumns, .ref p_this_canCount], jai G p_this_head 9 c_this_head, jai G p_this_hitCount 16 w97, jai G p_this_hitPlace 192 w98]) hk (c_X3_isLine l G v104 _ h) gX1_layHits_X3_isLine_n86 nd0_X3_isLine (List.mem_of_getElem? (i := 20) rfl) (List.mem_of_getElem? (i := 9) rfl) (List.mem_of_getElem? (i := 8) rfl) rfl rfl rfl ⟨Nat.le_of_ble_eq_true rfl, Nat.le_of_ble_eq_true rfl⟩ [] [0, 1, 2, 3] [0, 1, 2, 3] rfl rfl rfl rfl (by decide) rfl (fun _ => rfl) dX1_layHits_58 rfl (Nat.le_of_ble_eq_true rfl) ⟨Nat.zero_le _, Nat.zero_le _⟩ (fun r107 u106 h => ?_)
              refine jx_if_eq (tgt := 107) hk dX1_layHits_61 (by decide) (fun c108 => ?_) (fun c108 => ?_)
              · replace h := h.1 c108
                refine jx_iincN (lvf := fun vq => [(2, .int vq), (3, .int v104), (0, .ref p_this), (1, .int i87)]) (c := 1) hk dX1_layHits_107 3 rfl (by decide) (by decide) (fun _ => rfl) (fun v109 e110 => ?_)
                replace h := h v109 e110
                refine jx_goto (tgt := 22) hk dX1_layHits_110 (by decide) ?_
                refine jx_lvs (lv' := [(0, .ref p_this), (1, .int i87), (2, .int v109)]) [2, 3, 0] rfl ?_
                exact ih _ _ _ h
              · replace h := h.2 c108
                refine jx_aload_n hk dX1_layHits_64 rfl 1 rfl ?_
                refine jx_get (C := RX1) (T := TX1) (N := 14) (ci := 1) (v := .ref p_this_hitCount) hk hiX1 0 rfl rfl 3 (by decide) (List.mem_of_getElem? (i := 1) rfl) rfl dX1_layHits_65 ?_
                refine jx_iload_n hk dX1_layHits_68 rfl 0 rfl ?_
                obtain ⟨b111, h⟩ := h
                refine jx_iaload hk dX1_layHits_69 2 rfl b111 ?_
                refine jx_topi (fun v112 e113 => ?_)
                replace h := h v112 e113
                refine jx_bipush (v := 12) hk dX1_layHits_70 (by decide) ?_
                refine jx_icmp_ge (tgt := 107) hk dX1_layHits_72 (by decide) (fun c114 => ?_) (fun c114 => ?_)
                · replace h := h.1 c114
                  refine jx_iincN (lvf := fun vq => [(2, .int vq), (3, .int v104), (0, .ref p_this), (1, .int i87)]) (c := 1) hk dX1_layHits_107 3 rfl (by decide) (by decide) (fun _ => rfl) (fun v115 e116 => ?_)
                  replace h := h v115 e116
                  refine jx_goto (tgt := 22) hk dX1_layHits_110 (by decide) ?_
                  refine jx_lvs (lv' := [(0, .ref p_this), (1, .int i87), (2, .int v115)]) [2, 3, 0] rfl ?_
                  exact ih _ _ _ h
                · replace h := h.2 c114
                  refine jx_aload_n hk dX1_layHits_75 rfl 1 rfl ?_
                  refine jx_get (C := RX1) (T := TX1) (N := 14) (ci := 1) (v := .ref p_this_hitPlace) hk hiX1 0 rfl rfl 4 (by decide) (List.mem_of_getElem? (i := 3) rfl) rfl dX1_layHits_76 ?_
                  refine jx_iload_n hk dX1_layHits_79 rfl 0 rfl ?_
                  refine jx_bipush (v := 12) hk dX1_layHits_80 (by decide) ?_
                  refine jx_imul hk dX1_layHits_82 ?_
                  refine jx_topi (fun v117 e118 => ?_)
                  replace h := h v117 e118
                  refine jx_aload_n hk dX1_layHits_83 rfl 1 rfl ?_
                  refine jx_get (C := RX1) (T := TX1) (N := 14) (ci := 1) (v := .ref p_this_hitCount) hk hiX1 0 rfl rfl 3 (by decide) (List.mem_of_getElem? (i := 1) rfl) rfl dX1_layHits_84 ?_
                  refine jx_iload_n hk dX1_layHits_87 rfl 0 rfl ?_
                  obtain ⟨b119, h⟩ := h
                  refine jx_iaload hk dX1_layHits_88 2 rfl b119 ?_
                  refine jx_iadd hk dX1_layHits_89 ?_
                  refine jx_topi (fun v120 e121 => ?_)
                  replace h := h v120 e121
                  refine jx_iload_n hk dX1_layHits_90 rfl 2 rfl ?_
                  refine jx_bipush (v := 8) hk dX1_layHits_91 (by decide) ?_
                  refine jx_imul hk dX1_layHits_93 ?_
                  refine jx_topi (fun v122 e123 => ?_)
                  replace h := h v122 e123
                  refine jx_iload_n hk dX1_layHits_94 rfl 3 rfl ?_
                  refine jx_iadd hk dX1_layHits_95 ?_
                  refine jx_topi (fun v124 e125 => ?_)
                  replace h := h v124 e125
                  obtain ⟨b126, h⟩ := h
                  refine jx_iastore (ws' := [job p_this 1 [.ref p_this_picture, .ref p_this_head, .ref p_this_living, .ref p_this_hitCount, .ref p_this_hitPlace, .ref p_this_printingHit, .ref p_this_missedDots, .ref p_this_firstPass, .ref p_this_lastPass, .ref p_this_dotsPrinted, .ref p_this_gutter, .int f_this_strayed, .ref p_this_canColumns, .ref p_this_canCount], jai G p_this_head 9 c_this_head, jai G p_this_hitCount 16 w97, jai G p_this_hitPlace 192 (upd w98 v120.toNatClampNeg v124)]) hk dX1_layHits_96 3 rfl b126 rfl ?_
                  refine jx_aload_n hk dX1_layHits_97 rfl 1 rfl ?_
                  refine jx_get (C := RX1) (T := TX1) (N := 14) (ci := 1) (v := .ref p_this_hitCount) hk hiX1 0 rfl rfl 3 (by decide) (List.mem_of_getElem? (i := 1) rfl) rfl dX1_layHits_98 ?_
                  refine jx_iload_n hk dX1_layHits_101 rfl 0 rfl ?_
                  refine jx_dup2_11 hk dX1_layHits_102 rfl rfl ?_
                  obtain ⟨b127, h⟩ := h
                  refine jx_iaload hk dX1_layHits_103 2 rfl b127 ?_
                  refine jx_topi (fun v128 e129 => ?_)
                  replace h := h v128 e129
                  refine jx_iconst (v := 1) hk dX1_layHits_104 (by decide) ?_
                  refine jx_iadd hk dX1_layHits_105 ?_
                  refine jx_topi (fun v130 e131 => ?_)
                  replace h := h v130 e131
                  obtain ⟨b132, h⟩ := h
                  refine jx_iastore (ws' := [job p_this 1 [.ref p_this_picture, .ref p_this_head, .ref p_this_living, .ref p_this_hitCount, .ref p_this_hitPlace, .ref p_this_printingHit, .ref p_this_missedDots, .ref p_this_firstPass, .ref p_this_lastPass, .ref p_this_dotsPrinted, .ref p_this_gutter, .int f_this_strayed, .ref p_this_canColumns, .ref p_this_canCount], jai G p_this_head 9 c_this_head, jai G p_this_hitCount 16 (upd w97 v104.toNatClampNeg v130), jai G p_this_hitPlace 192 (upd w98 v120.toNatClampNeg v124)]) hk dX1_layHits_106 2 rfl b132 rfl ?_
                  refine jx_iincN (lvf := fun vq => [(2, .int vq), (3, .int v104), (0, .ref p_this), (1, .int i87)]) (c := 1) hk dX1_layHits_107 3 rfl (by decide) (by decide) (fun _ => rfl) (fun v133 e134 => ?_)
                  replace h := h v133 e134
                  refine jx_goto (tgt := 22) hk dX1_layHits_110 (by decide) ?_
                  refine jx_lvs (lv' := [(0, .ref p_this), (1, .int i87), (2, .int v133)]) [2, 3, 0] rfl ?_
                  exact ih _ _ _ h
        refine jx_lvs (lv' := [(0, .ref p_this), (1, .int i87), (2, .int (0 : Int32))]) [1, 2, 0] rfl ?_
        refine L22 _ ?_ n95 _ _ _ h
        intro d91 d92 h
        refine jx_iincN (lvf := fun vq => [(1, .int vq), (0, .ref p_this)]) (c := 1) hk dX1_layHits_113 1 rfl (by decide) (by decide) (fun _ => rfl) (fun v93 e94 => ?_)
        replace h := h v93 e94
        refine jx_goto (tgt := 10) hk dX1_layHits_116 (by decide) ?_
        refine jx_lvs (lv' := [(0, .ref p_this), (1, .int v93)]) [1, 0] rfl ?_
        exact ih _ _ _ h
  refine jx_lvs (lv' := [(0, .ref p_this), (1, .int (0 : Int32))]) [1, 0] rfl ?_
  refine L10 _ ?_ n86 _ _ _ h
  intro d84 d85 h
  exact hret (d84, d85) _ _ dX1_layHits_119 h
set_option maxHeartbeats 4000000 in
set_option maxRecDepth 100000 in
theorem c_X1_passOf (l : Launch) (G : jG) (p_this p_this_picture p_this_head p_this_living p_this_hitCount p_this_hitPlace p_this_printingHit p_this_missedDots p_this_firstPass p_this_lastPass p_this_dotsPrinted p_this_gutter p_this_canColumns p_this_canCount : Nat) (f_this_strayed : Int32) (c_this_hitPlace : Nat → Int32) (x1 : Int32) (x2 : Int32) (post : Int32 → Unit → Prop) (h : wp_X1_passOf x1 x2 c_this_hitPlace post) : jmi l yX1_passOf wsX1_passOf { frames := 0, cells := 0, slots := 0, locals := 0 } G [.ref p_this, .int x1, .int x2] [job p_this 1 [.ref p_this_picture, .ref p_this_head, .ref p_this_living, .ref p_this_hitCount, .ref p_this_hitPlace, .ref p_this_printingHit, .ref p_this_missedDots, .ref p_this_firstPass, .ref p_this_lastPass, .ref p_this_dotsPrinted, .ref p_this_gutter, .int f_this_strayed, .ref p_this_canColumns, .ref p_this_canCount], jai G p_this_hitPlace 192 c_this_hitPlace] (fun u : Unit => [job p_this 1 [.ref p_this_picture, .ref p_this_head, .ref p_this_living, .ref p_this_hitCount, .ref p_this_hitPlace, .ref p_this_printingHit, .ref p_this_missedDots, .ref p_this_firstPass, .ref p_this_lastPass, .ref p_this_dotsPrinted, .ref p_this_gutter, .int f_this_strayed, .ref p_this_canColumns, .ref p_this_canCount], jai G p_this_hitPlace 192 c_this_hitPlace]) post 0 0 := by
  refine jm_i (cc := cX1_passOf) (maxL := 3) (by decide) rfl (Nat.le_of_ble_eq_true rfl) ?_
  intro k A hk hin hret
  unfold wp_X1_passOf at h
  have hiX1 : ∀ w ∈ u_ws RX1 TX1 14, w ∈ wsX1_passOf := (fun w h => List.mem_cons_of_mem _ (List.mem_append_right _ h))
  show jx k G A 3 0 0 [job p_this 1 [.ref p_this_picture, .ref p_this_head, .ref p_this_living, .ref p_this_hitCount, .ref p_this_hitPlace, .ref p_this_printingHit, .ref p_this_missedDots, .ref p_this_firstPass, .ref p_this_lastPass, .ref p_this_dotsPrinted, .ref p_this_gutter, .int f_this_strayed, .ref p_this_canColumns, .ref p_this_canCount], jai G p_this_hitPlace 192 c_this_hitPlace] 0 [(0, .ref p_this), (1, .int x1), (2, .int x2)] []
  refine jx_aload_n hk dX1_passOf_0 rfl 0 rfl ?_
  refine jx_get (C := RX1) (T := TX1) (N := 14) (ci := 1) (v := .ref p_this_hitPlace) hk hiX1 0 rfl rfl 4 (by decide) (List.mem_of_getElem? (i := 1) rfl) rfl dX1_passOf_1 ?_
  refine jx_iload_n hk dX1_passOf_4 rfl 1 rfl ?_
  refine jx_bipush (v := 12) hk dX1_passOf_5 (by decide) ?_
  refine jx_imul hk dX1_passOf_7 ?_
  refine jx_topi (fun v1 e2 => ?_)
  replace h := h v1 e2
  refine jx_iload_n hk dX1_passOf_8 rfl 2 rfl ?_
  refine jx_iadd hk dX1_passOf_9 ?_
  refine jx_topi (fun v3 e4 => ?_)
  replace h := h v3 e4
  obtain ⟨b5, h⟩ := h
  refine jx_iaload hk dX1_passOf_10 1 rfl b5 ?_
  refine jx_topi (fun v6 e7 => ?_)
  replace h := h v6 e7
  refine jx_bipush (v := 8) hk dX1_passOf_11 (by decide) ?_
  refine jx_idiv hk dX1_passOf_13 (by decide) ?_
  exact hret (v6 / (8 : Int32)) () _ _ dX1_passOf_14 h
set_option maxHeartbeats 4000000 in
set_option maxRecDepth 100000 in
theorem c_X1_nozzleOf (l : Launch) (G : jG) (p_this p_this_picture p_this_head p_this_living p_this_hitCount p_this_hitPlace p_this_printingHit p_this_missedDots p_this_firstPass p_this_lastPass p_this_dotsPrinted p_this_gutter p_this_canColumns p_this_canCount : Nat) (f_this_strayed : Int32) (c_this_hitPlace : Nat → Int32) (x1 : Int32) (x2 : Int32) (post : Int32 → Unit → Prop) (h : wp_X1_nozzleOf x1 x2 c_this_hitPlace post) : jmi l yX1_nozzleOf wsX1_nozzleOf { frames := 0, cells := 0, slots := 0, locals := 0 } G [.ref p_this, .int x1, .int x2] [job p_this 1 [.ref p_this_picture, .ref p_this_head, .ref p_this_living, .ref p_this_hitCount, .ref p_this_hitPlace, .ref p_this_printingHit, .ref p_this_missedDots, .ref p_this_firstPass, .ref p_this_lastPass, .ref p_this_dotsPrinted, .ref p_this_gutter, .int f_this_strayed, .ref p_this_canColumns, .ref p_this_canCount], jai G p_this_hitPlace 192 c_this_hitPlace] (fun u : Unit => [job p_this 1 [.ref p_this_picture, .ref p_this_head, .ref p_this_living, .ref p_this_hitCount, .ref p_this_hitPlace, .ref p_this_printingHit, .ref p_this_missedDots, .ref p_this_firstPass, .ref p_this_lastPass, .ref p_this_dotsPrinted, .ref p_this_gutter, .int f_this_strayed, .ref p_this_canColumns, .ref p_this_canCount], jai G p_this_hitPlace 192 c_this_hitPlace]) post 0 0 := by
  refine jm_i (cc := cX1_nozzleOf) (maxL := 3) (by decide) rfl (Nat.le_of_ble_eq_true rfl) ?_
  intro k A hk hin hret
  unfold wp_X1_nozzleOf at h
  have hiX1 : ∀ w ∈ u_ws RX1 TX1 14, w ∈ wsX1_nozzleOf := (fun w h => List.mem_cons_of_mem _ (List.mem_append_right _ h))
  show jx k G A 3 0 0 [job p_this 1 [.ref p_this_picture, .ref p_this_head, .ref p_this_living, .ref p_this_hitCount, .ref p_this_hitPlace, .ref p_this_printingHit, .ref p_this_missedDots, .ref p_this_firstPass, .ref p_this_lastPass, .ref p_this_dotsPrinted, .ref p_this_gutter, .int f_this_strayed, .ref p_this_canColumns, .ref p_this_canCount], jai G p_this_hitPlace 192 c_this_hitPlace] 0 [(0, .ref p_this), (1, .int x1), (2, .int x2)] []
  refine jx_aload_n hk dX1_nozzleOf_0 rfl 0 rfl ?_
  refine jx_get (C := RX1) (T := TX1) (N := 14) (ci := 1) (v := .ref p_this_hitPlace) hk hiX1 0 rfl rfl 4 (by decide) (List.mem_of_getElem? (i := 1) rfl) rfl dX1_nozzleOf_1 ?_
  refine jx_iload_n hk dX1_nozzleOf_4 rfl 1 rfl ?_
  refine jx_bipush (v := 12) hk dX1_nozzleOf_5 (by decide) ?_
  refine jx_imul hk dX1_nozzleOf_7 ?_
  refine jx_topi (fun v1 e2 => ?_)
  replace h := h v1 e2
  refine jx_iload_n hk dX1_nozzleOf_8 rfl 2 rfl ?_
  refine jx_iadd hk dX1_nozzleOf_9 ?_
  refine jx_topi (fun v3 e4 => ?_)
  replace h := h v3 e4
  obtain ⟨b5, h⟩ := h
  refine jx_iaload hk dX1_nozzleOf_10 1 rfl b5 ?_
  refine jx_topi (fun v6 e7 => ?_)
  replace h := h v6 e7
  refine jx_bipush (v := 8) hk dX1_nozzleOf_11 (by decide) ?_
  refine jx_irem hk dX1_nozzleOf_13 (by decide) ?_
  exact hret (v6 - v6 / (8 : Int32) * (8 : Int32)) () _ _ dX1_nozzleOf_14 h
set_option maxHeartbeats 4000000 in
set_option maxRecDepth 100000 in
theorem c_X1_isLiving (l : Launch) (G : jG) (p_a0 : Nat) (c_a0 : Nat → Int32) (x1 : Int32) (x2 : Int32) (post : Int32 → Unit → Prop) (h : wp_X1_isLiving x1 x2 c_a0 post) : jmi l yX1_isLiving wsX1_isLiving { frames := 0, cells := 0, slots := 0, locals := 0 } G [.ref p_a0, .int x1, .int x2] [jai G p_a0 8 c_a0] (fun u : Unit => [jai G p_a0 8 c_a0]) post 0 0 := by
  refine jm_z (cc := cX1_isLiving) (maxL := 3) (by decide) rfl (Nat.le_of_ble_eq_true rfl) ?_
  intro k A hk hin hret
  unfold wp_X1_isLiving at h
  show jx k G A 3 0 0 [jai G p_a0 8 c_a0] 0 [(0, .ref p_a0), (1, .int x1), (2, .int x2)] []
  refine jx_aload_n hk dX1_isLiving_0 rfl 0 rfl ?_
  refine jx_iload_n hk dX1_isLiving_1 rfl 1 rfl ?_
  obtain ⟨b1, h⟩ := h
  refine jx_iaload hk dX1_isLiving_2 0 rfl b1 ?_
  refine jx_topi (fun v2 e3 => ?_)
  replace h := h v2 e3
  refine jx_iload_n hk dX1_isLiving_3 rfl 2 rfl ?_
  refine jx_ishr hk dX1_isLiving_4 ?_
  refine jx_topi (fun v4 e5 => ?_)
  replace h := h v4 e5
  refine jx_iconst (v := 1) hk dX1_isLiving_5 (by decide) ?_
  refine jx_iand hk dX1_isLiving_6 ?_
  refine jx_topi (fun v6 e7 => ?_)
  replace h := h v6 e7
  refine jx_iconst (v := 1) hk dX1_isLiving_7 (by decide) ?_
  refine jx_icmp_ne (tgt := 15) hk dX1_isLiving_8 (by decide) (fun c8 => ?_) (fun c8 => ?_)
  · replace h := h.1 c8
    refine jx_iconst (v := 0) hk dX1_isLiving_15 (by decide) ?_
    exact hret (0 : Int32) () _ _ dX1_isLiving_16 rfl h
  · replace h := h.2 c8
    refine jx_iconst (v := 1) hk dX1_isLiving_11 (by decide) ?_
    refine jx_goto (tgt := 16) hk dX1_isLiving_12 (by decide) ?_
    exact hret (1 : Int32) () _ _ dX1_isLiving_16 rfl h
set_option maxHeartbeats 4000000 in
set_option maxRecDepth 100000 in
theorem c_X1_goesRight (l : Launch) (G : jG) (x0 : Int32) (post : Int32 → Unit → Prop) (h : wp_X1_goesRight x0 post) : jmi l yX1_goesRight wsX1_goesRight { frames := 0, cells := 0, slots := 0, locals := 0 } G [.int x0] [] (fun u : Unit => []) post 0 0 := by
  refine jm_z (cc := cX1_goesRight) (maxL := 1) (by decide) rfl (Nat.le_of_ble_eq_true rfl) ?_
  intro k A hk hin hret
  unfold wp_X1_goesRight at h
  show jx k G A 1 0 0 [] 0 [(0, .int x0)] []
  refine jx_iload_n hk dX1_goesRight_0 rfl 0 rfl ?_
  refine jx_iconst (v := 1) hk dX1_goesRight_1 (by decide) ?_
  refine jx_iand hk dX1_goesRight_2 ?_
  refine jx_if_ne (tgt := 10) hk dX1_goesRight_3 (by decide) (fun c1 => ?_) (fun c1 => ?_)
  · replace h := h.1 c1
    refine jx_iconst (v := 0) hk dX1_goesRight_10 (by decide) ?_
    exact hret (0 : Int32) () _ _ dX1_goesRight_11 rfl h
  · replace h := h.2 c1
    refine jx_iconst (v := 1) hk dX1_goesRight_6 (by decide) ?_
    refine jx_goto (tgt := 11) hk dX1_goesRight_7 (by decide) ?_
    exact hret (1 : Int32) () _ _ dX1_goesRight_11 rfl h
set_option maxHeartbeats 4000000 in
set_option maxRecDepth 100000 in
theorem c_X1_columnsReached (l : Launch) (G : jG) (p_this p_this_picture p_this_head p_this_living p_this_hitCount p_this_hitPlace p_this_printingHit p_this_missedDots p_this_firstPass p_this_lastPass p_this_dotsPrinted p_this_gutter p_this_canColumns p_this_canCount : Nat) (f_this_strayed : Int32) (c_this_head : Nat → Int32) (x1 : Int32) (post : Int32 → Unit → Prop) (h : wp_X1_columnsReached x1 c_this_head post) : jmi l yX1_columnsReached wsX1_columnsReached { frames := 1, cells := 0, slots := 0, locals := 20 } G [.ref p_this, .int x1] [job p_this 1 [.ref p_this_picture, .ref p_this_head, .ref p_this_living, .ref p_this_hitCount, .ref p_this_hitPlace, .ref p_this_printingHit, .ref p_this_missedDots, .ref p_this_firstPass, .ref p_this_lastPass, .ref p_this_dotsPrinted, .ref p_this_gutter, .int f_this_strayed, .ref p_this_canColumns, .ref p_this_canCount], jai G p_this_head 9 c_this_head] (fun u : Unit => [job p_this 1 [.ref p_this_picture, .ref p_this_head, .ref p_this_living, .ref p_this_hitCount, .ref p_this_hitPlace, .ref p_this_printingHit, .ref p_this_missedDots, .ref p_this_firstPass, .ref p_this_lastPass, .ref p_this_dotsPrinted, .ref p_this_gutter, .int f_this_strayed, .ref p_this_canColumns, .ref p_this_canCount], jai G p_this_head 9 c_this_head]) post 0 0 := by
  refine jm_i (cc := cX1_columnsReached) (maxL := 2) (by decide) rfl (Nat.le_of_ble_eq_true rfl) ?_
  intro k A hk hin hret
  unfold wp_X1_columnsReached at h
  have hiX1 : ∀ w ∈ u_ws RX1 TX1 14, w ∈ wsX1_columnsReached := (fun w h => List.mem_cons_of_mem _ (List.mem_append_right _ h))
  show jx k G A 2 0 0 [job p_this 1 [.ref p_this_picture, .ref p_this_head, .ref p_this_living, .ref p_this_hitCount, .ref p_this_hitPlace, .ref p_this_printingHit, .ref p_this_missedDots, .ref p_this_firstPass, .ref p_this_lastPass, .ref p_this_dotsPrinted, .ref p_this_gutter, .int f_this_strayed, .ref p_this_canColumns, .ref p_this_canCount], jai G p_this_head 9 c_this_head] 0 [(0, .ref p_this), (1, .int x1)] []
  refine jx_iload_n hk dX1_columnsReached_0 rfl 1 rfl ?_
  refine jx_callSi (wr := [job p_this 1 [.ref p_this_picture, .ref p_this_head, .ref p_this_living, .ref p_this_hitCount, .ref p_this_hitPlace, .ref p_this_printingHit, .ref p_this_missedDots, .ref p_this_firstPass, .ref p_this_lastPass, .ref p_this_dotsPrinted, .ref p_this_gutter, .int f_this_strayed, .ref p_this_canColumns, .ref p_this_canCount], jai G p_this_head 9 c_this_head]) (ws2 := fun u1 => [job p_this 1 [.ref p_this_picture, .ref p_this_head, .ref p_this_living, .ref p_this_hitCount, .ref p_this_hitPlace, .ref p_this_printingHit, .ref p_this_missedDots, .ref p_this_firstPass, .ref p_this_lastPass, .ref p_this_dotsPrinted, .ref p_this_gutter, .int f_this_strayed, .ref p_this_canColumns, .ref p_this_canCount], jai G p_this_head 9 c_this_head]) hk (c_X1_goesRight l G x1 _ h) gX1_columnsReached_X1_goesRight nd0_X1_goesRight rfl rfl rfl ⟨Nat.le_of_ble_eq_true rfl, Nat.le_of_ble_eq_true rfl⟩ [] [0, 1] [0, 1] rfl rfl rfl rfl (by decide) rfl (fun _ => rfl) dX1_columnsReached_1 rfl (Nat.le_of_ble_eq_true rfl) ⟨Nat.zero_le _, Nat.zero_le _⟩ (fun r2 u1 h => ?_)
  refine jx_if_eq (tgt := 21) hk dX1_columnsReached_4 (by decide) (fun c3 => ?_) (fun c3 => ?_)
  · replace h := h.1 c3
    refine jx_sipush (v := 255) hk dX1_columnsReached_21 (by decide) ?_
    refine jx_aload_n hk dX1_columnsReached_24 rfl 0 rfl ?_
    refine jx_get (C := RX1) (T := TX1) (N := 14) (ci := 1) (v := .ref p_this_head) hk hiX1 0 rfl rfl 1 (by decide) (List.mem_of_getElem? (i := 1) rfl) rfl dX1_columnsReached_25 ?_
    refine jx_bipush (v := 7) hk dX1_columnsReached_28 (by decide) ?_
    refine jx_ialoadC (j := 7) hk dX1_columnsReached_30 1 rfl (by decide) ?_
    refine jx_ishl hk dX1_columnsReached_31 ?_
    refine jx_topi (fun v4 e5 => ?_)
    replace h := h v4 e5
    refine jx_sipush (v := 255) hk dX1_columnsReached_32 (by decide) ?_
    refine jx_iand hk dX1_columnsReached_35 ?_
    exact hret (v4 &&& (255 : Int32)) () _ _ dX1_columnsReached_36 h
  · replace h := h.2 c3
    refine jx_sipush (v := 255) hk dX1_columnsReached_7 (by decide) ?_
    refine jx_aload_n hk dX1_columnsReached_10 rfl 0 rfl ?_
    refine jx_get (C := RX1) (T := TX1) (N := 14) (ci := 1) (v := .ref p_this_head) hk hiX1 0 rfl rfl 1 (by decide) (List.mem_of_getElem? (i := 1) rfl) rfl dX1_columnsReached_11 ?_
    refine jx_bipush (v := 7) hk dX1_columnsReached_14 (by decide) ?_
    refine jx_ialoadC (j := 7) hk dX1_columnsReached_16 1 rfl (by decide) ?_
    refine jx_ishr hk dX1_columnsReached_17 ?_
    refine jx_topi (fun v6 e7 => ?_)
    replace h := h v6 e7
    refine jx_goto (tgt := 36) hk dX1_columnsReached_18 (by decide) ?_
    exact hret v6 () _ _ dX1_columnsReached_36 h
set_option maxHeartbeats 4000000 in
set_option maxRecDepth 100000 in
theorem c_X1_lookAtHits (l : Launch) (G : jG) (p_this p_this_picture p_this_head p_this_living p_this_hitCount p_this_hitPlace p_this_printingHit p_this_missedDots p_this_firstPass p_this_lastPass p_this_dotsPrinted p_this_gutter p_this_canColumns p_this_canCount : Nat) (f_this_strayed : Int32) (c_this_head : Nat → Int32) (c_this_living : Nat → Int32) (c_this_hitCount : Nat → Int32) (c_this_hitPlace : Nat → Int32) (c_this_canColumns : Nat → Int32) (c_this_canCount : Nat → Int32) (x1 : Int32) (post : ((Nat → Int32) × (Nat → Int32)) → Prop) (h : wp_X1_lookAtHits x1 c_this_head c_this_living c_this_hitCount c_this_hitPlace c_this_canColumns c_this_canCount post) : jmv l yX1_lookAtHits wsX1_lookAtHits { frames := 2, cells := 0, slots := 0, locals := 41 } G [.ref p_this, .int x1] [job p_this 1 [.ref p_this_picture, .ref p_this_head, .ref p_this_living, .ref p_this_hitCount, .ref p_this_hitPlace, .ref p_this_printingHit, .ref p_this_missedDots, .ref p_this_firstPass, .ref p_this_lastPass, .ref p_this_dotsPrinted, .ref p_this_gutter, .int f_this_strayed, .ref p_this_canColumns, .ref p_this_canCount], jai G p_this_head 9 c_this_head, jai G p_this_living 8 c_this_living, jai G p_this_hitCount 16 c_this_hitCount, jai G p_this_hitPlace 192 c_this_hitPlace, jai G p_this_canColumns 12 c_this_canColumns, jai G p_this_canCount 8 c_this_canCount] (fun u : (Nat → Int32) × (Nat → Int32) => [job p_this 1 [.ref p_this_picture, .ref p_this_head, .ref p_this_living, .ref p_this_hitCount, .ref p_this_hitPlace, .ref p_this_printingHit, .ref p_this_missedDots, .ref p_this_firstPass, .ref p_this_lastPass, .ref p_this_dotsPrinted, .ref p_this_gutter, .int f_this_strayed, .ref p_this_canColumns, .ref p_this_canCount], jai G p_this_head 9 c_this_head, jai G p_this_living 8 c_this_living, jai G p_this_hitCount 16 c_this_hitCount, jai G p_this_hitPlace 192 c_this_hitPlace, jai G p_this_canColumns 12 u.1, jai G p_this_canCount 8 u.2]) post 0 0 := by
  refine jm_v (cc := cX1_lookAtHits) (maxL := 5) (by decide) rfl (Nat.le_of_ble_eq_true rfl) ?_
  intro k A hk hin hret
  unfold wp_X1_lookAtHits at h
  have hiX1 : ∀ w ∈ u_ws RX1 TX1 14, w ∈ wsX1_lookAtHits := (fun w h => List.mem_cons_of_mem _ (List.mem_append_right _ h))
  show jx k G A 5 0 0 [job p_this 1 [.ref p_this_picture, .ref p_this_head, .ref p_this_living, .ref p_this_hitCount, .ref p_this_hitPlace, .ref p_this_printingHit, .ref p_this_missedDots, .ref p_this_firstPass, .ref p_this_lastPass, .ref p_this_dotsPrinted, .ref p_this_gutter, .int f_this_strayed, .ref p_this_canColumns, .ref p_this_canCount], jai G p_this_head 9 c_this_head, jai G p_this_living 8 c_this_living, jai G p_this_hitCount 16 c_this_hitCount, jai G p_this_hitPlace 192 c_this_hitPlace, jai G p_this_canColumns 12 c_this_canColumns, jai G p_this_canCount 8 c_this_canCount] 0 [(0, .ref p_this), (1, .int x1)] []
  refine jx_aload_n hk dX1_lookAtHits_0 rfl 0 rfl ?_
  refine jx_get (C := RX1) (T := TX1) (N := 14) (ci := 1) (v := .ref p_this_canCount) hk hiX1 0 rfl rfl 13 (by decide) (List.mem_of_getElem? (i := 1) rfl) rfl dX1_lookAtHits_1 ?_
  refine jx_iconst (v := 0) hk dX1_lookAtHits_4 (by decide) ?_
  refine jx_callSv (wr := [job p_this 1 [.ref p_this_picture, .ref p_this_head, .ref p_this_living, .ref p_this_hitCount, .ref p_this_hitPlace, .ref p_this_printingHit, .ref p_this_missedDots, .ref p_this_firstPass, .ref p_this_lastPass, .ref p_this_dotsPrinted, .ref p_this_gutter, .int f_this_strayed, .ref p_this_canColumns, .ref p_this_canCount], jai G p_this_head 9 c_this_head, jai G p_this_living 8 c_this_living, jai G p_this_hitCount 16 c_this_hitCount, jai G p_this_hitPlace 192 c_this_hitPlace, jai G p_this_canColumns 12 c_this_canColumns]) (ws2 := fun u47 => [job p_this 1 [.ref p_this_picture, .ref p_this_head, .ref p_this_living, .ref p_this_hitCount, .ref p_this_hitPlace, .ref p_this_printingHit, .ref p_this_missedDots, .ref p_this_firstPass, .ref p_this_lastPass, .ref p_this_dotsPrinted, .ref p_this_gutter, .int f_this_strayed, .ref p_this_canColumns, .ref p_this_canCount], jai G p_this_head 9 c_this_head, jai G p_this_living 8 c_this_living, jai G p_this_hitCount 16 c_this_hitCount, jai G p_this_hitPlace 192 c_this_hitPlace, jai G p_this_canColumns 12 c_this_canColumns, jai G p_this_canCount 8 u47]) hk (c_J7_fill_53178 l G p_this_canCount 8 c_this_canCount (0 : Int32) _ h) gX1_lookAtHits_J7_fill_53178 nd0_J7_fill_53178 rfl rfl rfl ⟨Nat.le_of_ble_eq_true rfl, Nat.le_of_ble_eq_true rfl⟩ [6] [0, 1, 2, 3, 4, 5] [0, 1, 2, 3, 4, 5, 6] rfl rfl rfl rfl (by decide) rfl (fun _ => rfl) dX1_lookAtHits_5 rfl (Nat.le_of_ble_eq_true rfl) ⟨Nat.zero_le _, Nat.zero_le _⟩ (fun u47 h => ?_)
  refine jx_iconst (v := 0) hk dX1_lookAtHits_8 (by decide) ?_
  refine jx_istore_n (lv' := [(2, .int (0 : Int32)), (0, .ref p_this), (1, .int x1)]) hk dX1_lookAtHits_9 rfl (by decide) rfl ?_
  obtain ⟨n51, h⟩ := h
  have L10 : ∀ (Ke_102 : (Nat → Int32) → (Nat → Int32) → Prop), (∀ (d49 : Nat → Int32) (d50 : Nat → Int32), Ke_102 d49 d50 → jx k G A 5 0 0 [job p_this 1 [.ref p_this_picture, .ref p_this_head, .ref p_this_living, .ref p_this_hitCount, .ref p_this_hitPlace, .ref p_this_printingHit, .ref p_this_missedDots, .ref p_this_firstPass, .ref p_this_lastPass, .ref p_this_dotsPrinted, .ref p_this_gutter, .int f_this_strayed, .ref p_this_canColumns, .ref p_this_canCount], jai G p_this_head 9 c_this_head, jai G p_this_living 8 c_this_living, jai G p_this_hitCount 16 c_this_hitCount, jai G p_this_hitPlace 192 c_this_hitPlace, jai G p_this_canColumns 12 d49, jai G p_this_canCount 8 d50] 102 [] []) → ∀ (n : Nat) (i52 : Int32) (w53 : Nat → Int32) (w54 : Nat → Int32), wq_X1_lookAtHits_10 c_this_head c_this_living c_this_hitCount c_this_hitPlace x1 post Ke_102 n i52 w53 w54 → jx k G A 5 0 0 [job p_this 1 [.ref p_this_picture, .ref p_this_head, .ref p_this_living, .ref p_this_hitCount, .ref p_this_hitPlace, .ref p_this_printingHit, .ref p_this_missedDots, .ref p_this_firstPass, .ref p_this_lastPass, .ref p_this_dotsPrinted, .ref p_this_gutter, .int f_this_strayed, .ref p_this_canColumns, .ref p_this_canCount], jai G p_this_head 9 c_this_head, jai G p_this_living 8 c_this_living, jai G p_this_hitCount 16 c_this_hitCount, jai G p_this_hitPlace 192 c_this_hitPlace, jai G p_this_canColumns 12 w53, jai G p_this_canCount 8 w54] 10 [(0, .ref p_this), (1, .int x1), (2, .int i52)] [] := by
    intro Ke_102 hE_102 n
    induction n with
    | zero =>
      intro _ _ _ h
      exact h.elim
    | succ n ih =>
      intro i52 w53 w54 h
      unfold wq_X1_lookAtHits_10 at h
      have J58 : ∀ (y55 : Int32) (z56 : Int32) (z57 : Int32) (w58 : Nat → Int32) (w59 : Nat → Int32), wq_X1_lookAtHits_58 c_this_head c_this_living c_this_hitCount c_this_hitPlace x1 post (wq_X1_lookAtHits_10 c_this_head c_this_living c_this_hitCount c_this_hitPlace x1 post Ke_102 n) Ke_102 y55 z56 z57 w58 w59 → jx k G A 5 0 0 [job p_this 1 [.ref p_this_picture, .ref p_this_head, .ref p_this_living, .ref p_this_hitCount, .ref p_this_hitPlace, .ref p_this_printingHit, .ref p_this_missedDots, .ref p_this_firstPass, .ref p_this_lastPass, .ref p_this_dotsPrinted, .ref p_this_gutter, .int f_this_strayed, .ref p_this_canColumns, .ref p_this_canCount], jai G p_this_head 9 c_this_head, jai G p_this_living 8 c_this_living, jai G p_this_hitCount 16 c_this_hitCount, jai G p_this_hitPlace 192 c_this_hitPlace, jai G p_this_canColumns 12 w58, jai G p_this_canCount 8 w59] 58 [(0, .ref p_this), (1, .int x1), (2, .int y55)] [.int z57, .int z56, .ref p_this_canColumns] := by
        intro y55 z56 z57 w58 w59 h
        unfold wq_X1_lookAtHits_58 at h
        obtain ⟨b60, h⟩ := h
        refine jx_iastore (ws' := [job p_this 1 [.ref p_this_picture, .ref p_this_head, .ref p_this_living, .ref p_this_hitCount, .ref p_this_hitPlace, .ref p_this_printingHit, .ref p_this_missedDots, .ref p_this_firstPass, .ref p_this_lastPass, .ref p_this_dotsPrinted, .ref p_this_gutter, .int f_this_strayed, .ref p_this_canColumns, .ref p_this_canCount], jai G p_this_head 9 c_this_head, jai G p_this_living 8 c_this_living, jai G p_this_hitCount 16 c_this_hitCount, jai G p_this_hitPlace 192 c_this_hitPlace, jai G p_this_canColumns 12 (upd w58 z56.toNatClampNeg z57), jai G p_this_canCount 8 w59]) hk dX1_lookAtHits_58 5 rfl b60 rfl ?_
        refine jx_iconst (v := 0) hk dX1_lookAtHits_59 (by decide) ?_
        refine jx_istore (lv' := [(4, .int (0 : Int32)), (0, .ref p_this), (1, .int x1), (2, .int y55)]) hk dX1_lookAtHits_60 (by decide) rfl ?_
        obtain ⟨n64, h⟩ := h
        have L62 : ∀ (Ke_96 : (Nat → Int32) → Prop), (∀ (d61 : Nat → Int32), Ke_96 d61 → jx k G A 5 0 0 [job p_this 1 [.ref p_this_picture, .ref p_this_head, .ref p_this_living, .ref p_this_hitCount, .ref p_this_hitPlace, .ref p_this_printingHit, .ref p_this_missedDots, .ref p_this_firstPass, .ref p_this_lastPass, .ref p_this_dotsPrinted, .ref p_this_gutter, .int f_this_strayed, .ref p_this_canColumns, .ref p_this_canCount], jai G p_this_head 9 c_this_head, jai G p_this_living 8 c_this_living, jai G p_this_hitCount 16 c_this_hitCount, jai G p_this_hitPlace 192 c_this_hitPlace, jai G p_this_canColumns 12 (upd w58 z56.toNatClampNeg z57), jai G p_this_canCount 8 d61] 96 [(0, .ref p_this), (1, .int x1), (2, .int y55)] []) → ∀ (n : Nat) (i65 : Int32) (w66 : Nat → Int32), wq_X1_lookAtHits_62 c_this_head c_this_living c_this_hitCount c_this_hitPlace x1 y55 (upd w58 z56.toNatClampNeg z57) post Ke_96 n i65 w66 → jx k G A 5 0 0 [job p_this 1 [.ref p_this_picture, .ref p_this_head, .ref p_this_living, .ref p_this_hitCount, .ref p_this_hitPlace, .ref p_this_printingHit, .ref p_this_missedDots, .ref p_this_firstPass, .ref p_this_lastPass, .ref p_this_dotsPrinted, .ref p_this_gutter, .int f_this_strayed, .ref p_this_canColumns, .ref p_this_canCount], jai G p_this_head 9 c_this_head, jai G p_this_living 8 c_this_living, jai G p_this_hitCount 16 c_this_hitCount, jai G p_this_hitPlace 192 c_this_hitPlace, jai G p_this_canColumns 12 (upd w58 z56.toNatClampNeg z57), jai G p_this_canCount 8 w66] 62 [(0, .ref p_this), (1, .int x1), (2, .int y55), (4, .int i65)] [] := by
          intro Ke_96 hE_96 n
          induction n with
          | zero =>
            intro _ _ h
            exact h.elim
          | succ n ih =>
            intro i65 w66 h
            unfold wq_X1_lookAtHits_62 at h
            refine jx_iload hk dX1_lookAtHits_62 3 rfl ?_
            refine jx_bipush (v := 8) hk dX1_lookAtHits_64 (by decide) ?_
            refine jx_icmp_ge (tgt := 96) hk dX1_lookAtHits_66 (by decide) (fun c67 => ?_) (fun c67 => ?_)
            · replace h := h.1 c67
              refine jx_lvs (lv' := [(0, .ref p_this), (1, .int x1), (2, .int y55)]) [0, 1, 2] rfl ?_
              exact hE_96 _ h
            · replace h := h.2 c67
              refine jx_aload_n hk dX1_lookAtHits_69 rfl 0 rfl ?_
              refine jx_get (C := RX1) (T := TX1) (N := 14) (ci := 1) (v := .ref p_this_canCount) hk hiX1 0 rfl rfl 13 (by decide) (List.mem_of_getElem? (i := 1) rfl) rfl dX1_lookAtHits_70 ?_
              refine jx_iload hk dX1_lookAtHits_73 3 rfl ?_
              refine jx_dup2_11 hk dX1_lookAtHits_75 rfl rfl ?_
              obtain ⟨b68, h⟩ := h
              refine jx_iaload hk dX1_lookAtHits_76 6 rfl b68 ?_
              refine jx_topi (fun v69 e70 => ?_)
              replace h := h v69 e70
              refine jx_aload_n hk dX1_lookAtHits_77 rfl 0 rfl ?_
              refine jx_get (C := RX1) (T := TX1) (N := 14) (ci := 1) (v := .ref p_this_canColumns) hk hiX1 0 rfl rfl 12 (by decide) (List.mem_of_getElem? (i := 3) rfl) rfl dX1_lookAtHits_78 ?_
              refine jx_iload_n hk dX1_lookAtHits_81 rfl 2 rfl ?_
              obtain ⟨b71, h⟩ := h
              refine jx_iaload hk dX1_lookAtHits_82 5 rfl b71 ?_
              refine jx_topi (fun v72 e73 => ?_)
              replace h := h v72 e73
              refine jx_iload hk dX1_lookAtHits_83 3 rfl ?_
              refine jx_ishr hk dX1_lookAtHits_85 ?_
              refine jx_topi (fun v74 e75 => ?_)
              replace h := h v74 e75
              refine jx_iconst (v := 1) hk dX1_lookAtHits_86 (by decide) ?_
              refine jx_iand hk dX1_lookAtHits_87 ?_
              refine jx_iadd hk dX1_lookAtHits_88 ?_
              refine jx_topi (fun v76 e77 => ?_)
              replace h := h v76 e77
              obtain ⟨b78, h⟩ := h
              refine jx_iastore (ws' := [job p_this 1 [.ref p_this_picture, .ref p_this_head, .ref p_this_living, .ref p_this_hitCount, .ref p_this_hitPlace, .ref p_this_printingHit, .ref p_this_missedDots, .ref p_this_firstPass, .ref p_this_lastPass, .ref p_this_dotsPrinted, .ref p_this_gutter, .int f_this_strayed, .ref p_this_canColumns, .ref p_this_canCount], jai G p_this_head 9 c_this_head, jai G p_this_living 8 c_this_living, jai G p_this_hitCount 16 c_this_hitCount, jai G p_this_hitPlace 192 c_this_hitPlace, jai G p_this_canColumns 12 (upd w58 z56.toNatClampNeg z57), jai G p_this_canCount 8 (upd w66 i65.toNatClampNeg v76)]) hk dX1_lookAtHits_89 6 rfl b78 rfl ?_
              refine jx_iincN (lvf := fun vq => [(4, .int vq), (0, .ref p_this), (1, .int x1), (2, .int y55)]) (c := 1) hk dX1_lookAtHits_90 3 rfl (by decide) (by decide) (fun _ => rfl) (fun v79 e80 => ?_)
              replace h := h v79 e80
              refine jx_goto (tgt := 62) hk dX1_lookAtHits_93 (by decide) ?_
              refine jx_lvs (lv' := [(0, .ref p_this), (1, .int x1), (2, .int y55), (4, .int v79)]) [1, 2, 3, 0] rfl ?_
              exact ih _ _ h
        refine jx_lvs (lv' := [(0, .ref p_this), (1, .int x1), (2, .int y55), (4, .int (0 : Int32))]) [1, 2, 3, 0] rfl ?_
        refine L62 _ ?_ n64 _ _ h
        intro d61 h
        refine jx_iincN (lvf := fun vq => [(2, .int vq), (0, .ref p_this), (1, .int x1)]) (c := 1) hk dX1_lookAtHits_96 2 rfl (by decide) (by decide) (fun _ => rfl) (fun v62 e63 => ?_)
        replace h := h v62 e63
        refine jx_goto (tgt := 10) hk dX1_lookAtHits_99 (by decide) ?_
        refine jx_lvs (lv' := [(0, .ref p_this), (1, .int x1), (2, .int v62)]) [1, 2, 0] rfl ?_
        exact ih _ _ _ h
      refine jx_iload_n hk dX1_lookAtHits_10 rfl 2 rfl ?_
      refine jx_aload_n hk dX1_lookAtHits_11 rfl 0 rfl ?_
      refine jx_get (C := RX1) (T := TX1) (N := 14) (ci := 1) (v := .ref p_this_hitCount) hk hiX1 0 rfl rfl 3 (by decide) (List.mem_of_getElem? (i := 2) rfl) rfl dX1_lookAtHits_12 ?_
      refine jx_iload_n hk dX1_lookAtHits_15 rfl 1 rfl ?_
      obtain ⟨b81, h⟩ := h
      refine jx_iaload hk dX1_lookAtHits_16 3 rfl b81 ?_
      refine jx_icmp_ge (tgt := 102) hk dX1_lookAtHits_17 (by decide) (fun c82 => ?_) (fun c82 => ?_)
      · replace h := h.1 c82
        refine jx_lvs (lv' := []) [] rfl ?_
        exact hE_102 _ _ h
      · replace h := h.2 c82
        refine jx_aload_n hk dX1_lookAtHits_20 rfl 0 rfl ?_
        refine jx_iload_n hk dX1_lookAtHits_21 rfl 1 rfl ?_
        refine jx_iload_n hk dX1_lookAtHits_22 rfl 2 rfl ?_
        refine jx_callVi (wr := [jai G p_this_head 9 c_this_head, jai G p_this_living 8 c_this_living, jai G p_this_hitCount 16 c_this_hitCount, jai G p_this_canColumns 12 w53, jai G p_this_canCount 8 w54]) (ws2 := fun u83 => [job p_this 1 [.ref p_this_picture, .ref p_this_head, .ref p_this_living, .ref p_this_hitCount, .ref p_this_hitPlace, .ref p_this_printingHit, .ref p_this_missedDots, .ref p_this_firstPass, .ref p_this_lastPass, .ref p_this_dotsPrinted, .ref p_this_gutter, .int f_this_strayed, .ref p_this_canColumns, .ref p_this_canCount], jai G p_this_head 9 c_this_head, jai G p_this_living 8 c_this_living, jai G p_this_hitCount 16 c_this_hitCount, jai G p_this_hitPlace 192 c_this_hitPlace, jai G p_this_canColumns 12 w53, jai G p_this_canCount 8 w54]) hk (c_X1_passOf l G p_this p_this_picture p_this_head p_this_living p_this_hitCount p_this_hitPlace p_this_printingHit p_this_missedDots p_this_firstPass p_this_lastPass p_this_dotsPrinted p_this_gutter p_this_canColumns p_this_canCount f_this_strayed c_this_hitPlace x1 i52 _ h) 0 rfl rfl gX1_lookAtHits_X1_passOf ndV_X1_passOf rfl rfl rfl ⟨Nat.le_of_ble_eq_true rfl, Nat.le_of_ble_eq_true rfl⟩ [0, 4] [1, 2, 3, 5, 6] [5, 0, 1, 2, 6, 3, 4] rfl rfl rfl rfl (by decide) rfl (fun _ => rfl) dX1_lookAtHits_23 rfl (Nat.le_of_ble_eq_true rfl) ⟨Nat.zero_le _, Nat.zero_le _⟩ (fun r84 u83 h => ?_)
        refine jx_istore_n (lv' := [(3, .int r84), (0, .ref p_this), (1, .int x1), (2, .int i52)]) hk dX1_lookAtHits_26 rfl (by decide) rfl ?_
        refine jx_aload_n hk dX1_lookAtHits_27 rfl 1 rfl ?_
        refine jx_get (C := RX1) (T := TX1) (N := 14) (ci := 1) (v := .ref p_this_canColumns) hk hiX1 0 rfl rfl 12 (by decide) (List.mem_of_getElem? (i := 3) rfl) rfl dX1_lookAtHits_28 ?_
        refine jx_iload_n hk dX1_lookAtHits_31 rfl 3 rfl ?_
        refine jx_aload_n hk dX1_lookAtHits_32 rfl 1 rfl ?_
        refine jx_get (C := RX1) (T := TX1) (N := 14) (ci := 1) (v := .ref p_this_living) hk hiX1 0 rfl rfl 2 (by decide) (List.mem_of_getElem? (i := 4) rfl) rfl dX1_lookAtHits_33 ?_
        refine jx_aload_n hk dX1_lookAtHits_36 rfl 1 rfl ?_
        refine jx_iload_n hk dX1_lookAtHits_37 rfl 2 rfl ?_
        refine jx_iload_n hk dX1_lookAtHits_38 rfl 3 rfl ?_
        refine jx_callVi (wr := [jai G p_this_head 9 c_this_head, jai G p_this_living 8 c_this_living, jai G p_this_hitCount 16 c_this_hitCount, jai G p_this_canColumns 12 w53, jai G p_this_canCount 8 w54]) (ws2 := fun u85 => [job p_this 1 [.ref p_this_picture, .ref p_this_head, .ref p_this_living, .ref p_this_hitCount, .ref p_this_hitPlace, .ref p_this_printingHit, .ref p_this_missedDots, .ref p_this_firstPass, .ref p_this_lastPass, .ref p_this_dotsPrinted, .ref p_this_gutter, .int f_this_strayed, .ref p_this_canColumns, .ref p_this_canCount], jai G p_this_head 9 c_this_head, jai G p_this_living 8 c_this_living, jai G p_this_hitCount 16 c_this_hitCount, jai G p_this_hitPlace 192 c_this_hitPlace, jai G p_this_canColumns 12 w53, jai G p_this_canCount 8 w54]) hk (c_X1_nozzleOf l G p_this p_this_picture p_this_head p_this_living p_this_hitCount p_this_hitPlace p_this_printingHit p_this_missedDots p_this_firstPass p_this_lastPass p_this_dotsPrinted p_this_gutter p_this_canColumns p_this_canCount f_this_strayed c_this_hitPlace x1 i52 _ h) 0 rfl rfl gX1_lookAtHits_X1_nozzleOf ndV_X1_nozzleOf rfl rfl rfl ⟨Nat.le_of_ble_eq_true rfl, Nat.le_of_ble_eq_true rfl⟩ [0, 4] [1, 2, 3, 5, 6] [5, 0, 1, 2, 6, 3, 4] rfl rfl rfl rfl (by decide) rfl (fun _ => rfl) dX1_lookAtHits_39 rfl (Nat.le_of_ble_eq_true rfl) ⟨Nat.zero_le _, Nat.zero_le _⟩ (fun r86 u85 h => ?_)
        refine jx_iload_n hk dX1_lookAtHits_42 rfl 0 rfl ?_
        refine jx_callSi (wr := [job p_this 1 [.ref p_this_picture, .ref p_this_head, .ref p_this_living, .ref p_this_hitCount, .ref p_this_hitPlace, .ref p_this_printingHit, .ref p_this_missedDots, .ref p_this_firstPass, .ref p_this_lastPass, .ref p_this_dotsPrinted, .ref p_this_gutter, .int f_this_strayed, .ref p_this_canColumns, .ref p_this_canCount], jai G p_this_head 9 c_this_head, jai G p_this_hitCount 16 c_this_hitCount, jai G p_this_hitPlace 192 c_this_hitPlace, jai G p_this_canColumns 12 w53, jai G p_this_canCount 8 w54]) (ws2 := fun u87 => [job p_this 1 [.ref p_this_picture, .ref p_this_head, .ref p_this_living, .ref p_this_hitCount, .ref p_this_hitPlace, .ref p_this_printingHit, .ref p_this_missedDots, .ref p_this_firstPass, .ref p_this_lastPass, .ref p_this_dotsPrinted, .ref p_this_gutter, .int f_this_strayed, .ref p_this_canColumns, .ref p_this_canCount], jai G p_this_head 9 c_this_head, jai G p_this_living 8 c_this_living, jai G p_this_hitCount 16 c_this_hitCount, jai G p_this_hitPlace 192 c_this_hitPlace, jai G p_this_canColumns 12 w53, jai G p_this_canCount 8 w54]) hk (c_X1_isLiving l G p_this_living c_this_living r86 r84 _ h) gX1_lookAtHits_X1_isLiving nd0_X1_isLiving rfl rfl rfl ⟨Nat.le_of_ble_eq_true rfl, Nat.le_of_ble_eq_true rfl⟩ [2] [0, 1, 3, 4, 5, 6] [0, 1, 6, 2, 3, 4, 5] rfl rfl rfl rfl (by decide) rfl (fun _ => rfl) dX1_lookAtHits_43 rfl (Nat.le_of_ble_eq_true rfl) ⟨Nat.zero_le _, Nat.zero_le _⟩ (fun r88 u87 h => ?_)
        refine jx_if_eq (tgt := 57) hk dX1_lookAtHits_46 (by decide) (fun c89 => ?_) (fun c89 => ?_)
        · replace h := h.1 c89
          refine jx_iconst (v := 0) hk dX1_lookAtHits_57 (by decide) ?_
          refine jx_lvs (lv' := [(0, .ref p_this), (1, .int x1), (2, .int i52)]) [1, 2, 3] rfl ?_
          exact J58 _ _ _ _ _ h
        · replace h := h.2 c89
          refine jx_aload_n hk dX1_lookAtHits_49 rfl 1 rfl ?_
          refine jx_iload_n hk dX1_lookAtHits_50 rfl 0 rfl ?_
          refine jx_callVi (wr := [jai G p_this_living 8 c_this_living, jai G p_this_hitCount 16 c_this_hitCount, jai G p_this_hitPlace 192 c_this_hitPlace, jai G p_this_canColumns 12 w53, jai G p_this_canCount 8 w54]) (ws2 := fun u90 => [job p_this 1 [.ref p_this_picture, .ref p_this_head, .ref p_this_living, .ref p_this_hitCount, .ref p_this_hitPlace, .ref p_this_printingHit, .ref p_this_missedDots, .ref p_this_firstPass, .ref p_this_lastPass, .ref p_this_dotsPrinted, .ref p_this_gutter, .int f_this_strayed, .ref p_this_canColumns, .ref p_this_canCount], jai G p_this_head 9 c_this_head, jai G p_this_living 8 c_this_living, jai G p_this_hitCount 16 c_this_hitCount, jai G p_this_hitPlace 192 c_this_hitPlace, jai G p_this_canColumns 12 w53, jai G p_this_canCount 8 w54]) hk (c_X1_columnsReached l G p_this p_this_picture p_this_head p_this_living p_this_hitCount p_this_hitPlace p_this_printingHit p_this_missedDots p_this_firstPass p_this_lastPass p_this_dotsPrinted p_this_gutter p_this_canColumns p_this_canCount f_this_strayed c_this_head r84 _ h) 0 rfl rfl gX1_lookAtHits_X1_columnsReached ndV_X1_columnsReached rfl rfl rfl ⟨Nat.le_of_ble_eq_true rfl, Nat.le_of_ble_eq_true rfl⟩ [0, 1] [2, 3, 4, 5, 6] [5, 6, 0, 1, 2, 3, 4] rfl rfl rfl rfl (by decide) rfl (fun _ => rfl) dX1_lookAtHits_51 rfl (Nat.le_of_ble_eq_true rfl) ⟨Nat.zero_le _, Nat.zero_le _⟩ (fun r91 u90 h => ?_)
          refine jx_goto (tgt := 58) hk dX1_lookAtHits_54 (by decide) ?_
          refine jx_lvs (lv' := [(0, .ref p_this), (1, .int x1), (2, .int i52)]) [1, 2, 3] rfl ?_
          exact J58 _ _ _ _ _ h
  refine jx_lvs (lv' := [(0, .ref p_this), (1, .int x1), (2, .int (0 : Int32))]) [1, 2, 0] rfl ?_
  refine L10 _ ?_ n51 _ _ _ h
  intro d49 d50 h
  exact hret (d49, d50) _ _ dX1_lookAtHits_102 h
set_option maxHeartbeats 4000000 in
set_option maxRecDepth 100000 in
theorem c_X1_isDot (l : Launch) (G : jG) (p_this p_this_picture p_this_head p_this_living p_this_hitCount p_this_hitPlace p_this_printingHit p_this_missedDots p_this_firstPass p_this_lastPass p_this_dotsPrinted p_this_gutter p_this_canColumns p_this_canCount : Nat) (f_this_strayed : Int32) (c_this_picture : Nat → Int32) (x1 : Int32) (x2 : Int32) (post : Int32 → Unit → Prop) (h : wp_X1_isDot x1 x2 c_this_picture post) : jmi l yX1_isDot wsX1_isDot { frames := 0, cells := 0, slots := 0, locals := 0 } G [.ref p_this, .int x1, .int x2] [job p_this 1 [.ref p_this_picture, .ref p_this_head, .ref p_this_living, .ref p_this_hitCount, .ref p_this_hitPlace, .ref p_this_printingHit, .ref p_this_missedDots, .ref p_this_firstPass, .ref p_this_lastPass, .ref p_this_dotsPrinted, .ref p_this_gutter, .int f_this_strayed, .ref p_this_canColumns, .ref p_this_canCount], jai G p_this_picture 16 c_this_picture] (fun u : Unit => [job p_this 1 [.ref p_this_picture, .ref p_this_head, .ref p_this_living, .ref p_this_hitCount, .ref p_this_hitPlace, .ref p_this_printingHit, .ref p_this_missedDots, .ref p_this_firstPass, .ref p_this_lastPass, .ref p_this_dotsPrinted, .ref p_this_gutter, .int f_this_strayed, .ref p_this_canColumns, .ref p_this_canCount], jai G p_this_picture 16 c_this_picture]) post 0 0 := by
  refine jm_z (cc := cX1_isDot) (maxL := 3) (by decide) rfl (Nat.le_of_ble_eq_true rfl) ?_
  intro k A hk hin hret
  unfold wp_X1_isDot at h
  have hiX1 : ∀ w ∈ u_ws RX1 TX1 14, w ∈ wsX1_isDot := (fun w h => List.mem_cons_of_mem _ (List.mem_append_right _ h))
  show jx k G A 3 0 0 [job p_this 1 [.ref p_this_picture, .ref p_this_head, .ref p_this_living, .ref p_this_hitCount, .ref p_this_hitPlace, .ref p_this_printingHit, .ref p_this_missedDots, .ref p_this_firstPass, .ref p_this_lastPass, .ref p_this_dotsPrinted, .ref p_this_gutter, .int f_this_strayed, .ref p_this_canColumns, .ref p_this_canCount], jai G p_this_picture 16 c_this_picture] 0 [(0, .ref p_this), (1, .int x1), (2, .int x2)] []
  refine jx_aload_n hk dX1_isDot_0 rfl 0 rfl ?_
  refine jx_get (C := RX1) (T := TX1) (N := 14) (ci := 1) (v := .ref p_this_picture) hk hiX1 0 rfl rfl 0 (by decide) (List.mem_of_getElem? (i := 1) rfl) rfl dX1_isDot_1 ?_
  refine jx_iload_n hk dX1_isDot_4 rfl 1 rfl ?_
  obtain ⟨b1, h⟩ := h
  refine jx_iaload hk dX1_isDot_5 1 rfl b1 ?_
  refine jx_topi (fun v2 e3 => ?_)
  replace h := h v2 e3
  refine jx_iload_n hk dX1_isDot_6 rfl 2 rfl ?_
  refine jx_ishr hk dX1_isDot_7 ?_
  refine jx_topi (fun v4 e5 => ?_)
  replace h := h v4 e5
  refine jx_iconst (v := 1) hk dX1_isDot_8 (by decide) ?_
  refine jx_iand hk dX1_isDot_9 ?_
  refine jx_topi (fun v6 e7 => ?_)
  replace h := h v6 e7
  refine jx_iconst (v := 1) hk dX1_isDot_10 (by decide) ?_
  refine jx_icmp_ne (tgt := 18) hk dX1_isDot_11 (by decide) (fun c8 => ?_) (fun c8 => ?_)
  · replace h := h.1 c8
    refine jx_iconst (v := 0) hk dX1_isDot_18 (by decide) ?_
    exact hret (0 : Int32) () _ _ dX1_isDot_19 rfl h
  · replace h := h.2 c8
    refine jx_iconst (v := 1) hk dX1_isDot_14 (by decide) ?_
    refine jx_goto (tgt := 19) hk dX1_isDot_15 (by decide) ?_
    exact hret (1 : Int32) () _ _ dX1_isDot_19 rfl h
set_option maxHeartbeats 4000000 in
set_option maxRecDepth 100000 in
theorem c_X1_maskNumber (l : Launch) (G : jG) (p_this p_this_picture p_this_head p_this_living p_this_hitCount p_this_hitPlace p_this_printingHit p_this_missedDots p_this_firstPass p_this_lastPass p_this_dotsPrinted p_this_gutter p_this_canColumns p_this_canCount : Nat) (f_this_strayed : Int32) (c_this_head : Nat → Int32) (x1 : Int32) (x2 : Int32) (post : Int32 → Unit → Prop) (h : wp_X1_maskNumber x1 x2 c_this_head post) : jmi l yX1_maskNumber wsX1_maskNumber { frames := 0, cells := 0, slots := 0, locals := 0 } G [.ref p_this, .int x1, .int x2] [job p_this 1 [.ref p_this_picture, .ref p_this_head, .ref p_this_living, .ref p_this_hitCount, .ref p_this_hitPlace, .ref p_this_printingHit, .ref p_this_missedDots, .ref p_this_firstPass, .ref p_this_lastPass, .ref p_this_dotsPrinted, .ref p_this_gutter, .int f_this_strayed, .ref p_this_canColumns, .ref p_this_canCount], jai G p_this_head 9 c_this_head] (fun u : Unit => [job p_this 1 [.ref p_this_picture, .ref p_this_head, .ref p_this_living, .ref p_this_hitCount, .ref p_this_hitPlace, .ref p_this_printingHit, .ref p_this_missedDots, .ref p_this_firstPass, .ref p_this_lastPass, .ref p_this_dotsPrinted, .ref p_this_gutter, .int f_this_strayed, .ref p_this_canColumns, .ref p_this_canCount], jai G p_this_head 9 c_this_head]) post 0 0 := by
  refine jm_i (cc := cX1_maskNumber) (maxL := 3) (by decide) rfl (Nat.le_of_ble_eq_true rfl) ?_
  intro k A hk hin hret
  unfold wp_X1_maskNumber at h
  have hiX1 : ∀ w ∈ u_ws RX1 TX1 14, w ∈ wsX1_maskNumber := (fun w h => List.mem_cons_of_mem _ (List.mem_append_right _ h))
  show jx k G A 3 0 0 [job p_this 1 [.ref p_this_picture, .ref p_this_head, .ref p_this_living, .ref p_this_hitCount, .ref p_this_hitPlace, .ref p_this_printingHit, .ref p_this_missedDots, .ref p_this_firstPass, .ref p_this_lastPass, .ref p_this_dotsPrinted, .ref p_this_gutter, .int f_this_strayed, .ref p_this_canColumns, .ref p_this_canCount], jai G p_this_head 9 c_this_head] 0 [(0, .ref p_this), (1, .int x1), (2, .int x2)] []
  refine jx_aload_n hk dX1_maskNumber_0 rfl 0 rfl ?_
  refine jx_get (C := RX1) (T := TX1) (N := 14) (ci := 1) (v := .ref p_this_head) hk hiX1 0 rfl rfl 1 (by decide) (List.mem_of_getElem? (i := 1) rfl) rfl dX1_maskNumber_1 ?_
  refine jx_bipush (v := 8) hk dX1_maskNumber_4 (by decide) ?_
  refine jx_ialoadC (j := 8) hk dX1_maskNumber_6 1 rfl (by decide) ?_
  by_cases c1 : (c_this_head 8) = 0
  · replace h := h.1 c1
    refine jx_tin (off := 25) (tgt := 32) hk dX1_maskNumber_7 c1 (by decide) (by decide) rfl (by decide) ?_
    refine jx_iload_n hk dX1_maskNumber_32 rfl 1 rfl ?_
    refine jx_iload_n hk dX1_maskNumber_33 rfl 2 rfl ?_
    refine jx_iadd hk dX1_maskNumber_34 ?_
    exact hret (x1 + x2) () _ _ dX1_maskNumber_35 h
  · replace h := h.2 c1
    by_cases c2 : (c_this_head 8) = 1
    · replace h := h.1 c2
      refine jx_tin (off := 29) (tgt := 36) hk dX1_maskNumber_7 c2 (by decide) (by decide) rfl (by decide) ?_
      refine jx_iload_n hk dX1_maskNumber_36 rfl 2 rfl ?_
      exact hret x2 () _ _ dX1_maskNumber_37 h
    · replace h := h.2 c2
      by_cases c3 : (c_this_head 8) = 2
      · replace h := h.1 c3
        refine jx_tin (off := 31) (tgt := 38) hk dX1_maskNumber_7 c3 (by decide) (by decide) rfl (by decide) ?_
        refine jx_iload_n hk dX1_maskNumber_38 rfl 1 rfl ?_
        exact hret x1 () _ _ dX1_maskNumber_39 h
      · replace h := h.2 c3
        refine jx_tout (tgt := 40) hk dX1_maskNumber_7 (by have q0 := lv_neT (a := 0) c1 (by decide); have q1 := lv_neT (a := 1) c2 (by decide); have q2 := lv_neT (a := 2) c3 (by decide); omega) (by decide) ?_
        refine jx_iload_n hk dX1_maskNumber_40 rfl 2 rfl ?_
        refine jx_iconst (v := 1) hk dX1_maskNumber_41 (by decide) ?_
        refine jx_ishr hk dX1_maskNumber_42 ?_
        refine jx_topi (fun v4 e5 => ?_)
        replace h := h v4 e5
        refine jx_iload_n hk dX1_maskNumber_43 rfl 1 rfl ?_
        refine jx_iadd hk dX1_maskNumber_44 ?_
        exact hret (v4 + x1) () _ _ dX1_maskNumber_45 h
set_option maxHeartbeats 4000000 in
set_option maxRecDepth 100000 in
theorem c_X1_wantedHit (l : Launch) (G : jG) (p_this p_this_picture p_this_head p_this_living p_this_hitCount p_this_hitPlace p_this_printingHit p_this_missedDots p_this_firstPass p_this_lastPass p_this_dotsPrinted p_this_gutter p_this_canColumns p_this_canCount : Nat) (f_this_strayed : Int32) (c_this_picture : Nat → Int32) (c_this_head : Nat → Int32) (c_this_hitCount : Nat → Int32) (x1 : Int32) (x2 : Int32) (post : Int32 → Unit → Prop) (h : wp_X1_wantedHit x1 x2 c_this_picture c_this_head c_this_hitCount post) : jmi l yX1_wantedHit wsX1_wantedHit { frames := 1, cells := 0, slots := 0, locals := 22 } G [.ref p_this, .int x1, .int x2] [job p_this 1 [.ref p_this_picture, .ref p_this_head, .ref p_this_living, .ref p_this_hitCount, .ref p_this_hitPlace, .ref p_this_printingHit, .ref p_this_missedDots, .ref p_this_firstPass, .ref p_this_lastPass, .ref p_this_dotsPrinted, .ref p_this_gutter, .int f_this_strayed, .ref p_this_canColumns, .ref p_this_canCount], jai G p_this_picture 16 c_this_picture, jai G p_this_head 9 c_this_head, jai G p_this_hitCount 16 c_this_hitCount] (fun u : Unit => [job p_this 1 [.ref p_this_picture, .ref p_this_head, .ref p_this_living, .ref p_this_hitCount, .ref p_this_hitPlace, .ref p_this_printingHit, .ref p_this_missedDots, .ref p_this_firstPass, .ref p_this_lastPass, .ref p_this_dotsPrinted, .ref p_this_gutter, .int f_this_strayed, .ref p_this_canColumns, .ref p_this_canCount], jai G p_this_picture 16 c_this_picture, jai G p_this_head 9 c_this_head, jai G p_this_hitCount 16 c_this_hitCount]) post 0 0 := by
  refine jm_i (cc := cX1_wantedHit) (maxL := 4) (by decide) rfl (Nat.le_of_ble_eq_true rfl) ?_
  intro k A hk hin hret
  unfold wp_X1_wantedHit at h
  have hiX1 : ∀ w ∈ u_ws RX1 TX1 14, w ∈ wsX1_wantedHit := (fun w h => List.mem_cons_of_mem _ (List.mem_append_right _ h))
  show jx k G A 4 0 0 [job p_this 1 [.ref p_this_picture, .ref p_this_head, .ref p_this_living, .ref p_this_hitCount, .ref p_this_hitPlace, .ref p_this_printingHit, .ref p_this_missedDots, .ref p_this_firstPass, .ref p_this_lastPass, .ref p_this_dotsPrinted, .ref p_this_gutter, .int f_this_strayed, .ref p_this_canColumns, .ref p_this_canCount], jai G p_this_picture 16 c_this_picture, jai G p_this_head 9 c_this_head, jai G p_this_hitCount 16 c_this_hitCount] 0 [(0, .ref p_this), (1, .int x1), (2, .int x2)] []
  refine jx_aload_n hk dX1_wantedHit_0 rfl 0 rfl ?_
  refine jx_get (C := RX1) (T := TX1) (N := 14) (ci := 1) (v := .ref p_this_hitCount) hk hiX1 0 rfl rfl 3 (by decide) (List.mem_of_getElem? (i := 1) rfl) rfl dX1_wantedHit_1 ?_
  refine jx_iload_n hk dX1_wantedHit_4 rfl 1 rfl ?_
  obtain ⟨b1, h⟩ := h
  refine jx_iaload hk dX1_wantedHit_5 3 rfl b1 ?_
  refine jx_topi (fun v2 e3 => ?_)
  replace h := h v2 e3
  refine jx_istore_n (lv' := [(3, .int v2), (0, .ref p_this), (1, .int x1), (2, .int x2)]) hk dX1_wantedHit_6 rfl (by decide) rfl ?_
  refine jx_iload_n hk dX1_wantedHit_7 rfl 0 rfl ?_
  refine jx_if_le (tgt := 31) hk dX1_wantedHit_8 (by decide) (fun c4 => ?_) (fun c4 => ?_)
  · replace h := h.1 c4
    refine jx_iconst (v := (-1)) hk dX1_wantedHit_31 (by decide) ?_
    exact hret (-1 : Int32) () _ _ dX1_wantedHit_32 h
  · replace h := h.2 c4
    refine jx_aload_n hk dX1_wantedHit_11 rfl 1 rfl ?_
    refine jx_iload_n hk dX1_wantedHit_12 rfl 2 rfl ?_
    refine jx_iload_n hk dX1_wantedHit_13 rfl 3 rfl ?_
    refine jx_callVi (wr := [jai G p_this_head 9 c_this_head, jai G p_this_hitCount 16 c_this_hitCount]) (ws2 := fun u5 => [job p_this 1 [.ref p_this_picture, .ref p_this_head, .ref p_this_living, .ref p_this_hitCount, .ref p_this_hitPlace, .ref p_this_printingHit, .ref p_this_missedDots, .ref p_this_firstPass, .ref p_this_lastPass, .ref p_this_dotsPrinted, .ref p_this_gutter, .int f_this_strayed, .ref p_this_canColumns, .ref p_this_canCount], jai G p_this_picture 16 c_this_picture, jai G p_this_head 9 c_this_head, jai G p_this_hitCount 16 c_this_hitCount]) hk (c_X1_isDot l G p_this p_this_picture p_this_head p_this_living p_this_hitCount p_this_hitPlace p_this_printingHit p_this_missedDots p_this_firstPass p_this_lastPass p_this_dotsPrinted p_this_gutter p_this_canColumns p_this_canCount f_this_strayed c_this_picture x1 x2 _ h) 0 rfl rfl gX1_wantedHit_X1_isDot ndV_X1_isDot rfl rfl rfl ⟨Nat.le_of_ble_eq_true rfl, Nat.le_of_ble_eq_true rfl⟩ [0, 1] [2, 3] [2, 3, 0, 1] rfl rfl rfl rfl (by decide) rfl (fun _ => rfl) dX1_wantedHit_14 rfl (Nat.le_of_ble_eq_true rfl) ⟨Nat.zero_le _, Nat.zero_le _⟩ (fun r6 u5 h => ?_)
    refine jx_if_eq (tgt := 31) hk dX1_wantedHit_17 (by decide) (fun c7 => ?_) (fun c7 => ?_)
    · replace h := h.1 c7
      refine jx_iconst (v := (-1)) hk dX1_wantedHit_31 (by decide) ?_
      exact hret (-1 : Int32) () _ _ dX1_wantedHit_32 h
    · replace h := h.2 c7
      refine jx_aload_n hk dX1_wantedHit_20 rfl 1 rfl ?_
      refine jx_iload_n hk dX1_wantedHit_21 rfl 2 rfl ?_
      refine jx_iload_n hk dX1_wantedHit_22 rfl 3 rfl ?_
      refine jx_callVi (wr := [jai G p_this_picture 16 c_this_picture, jai G p_this_hitCount 16 c_this_hitCount]) (ws2 := fun u8 => [job p_this 1 [.ref p_this_picture, .ref p_this_head, .ref p_this_living, .ref p_this_hitCount, .ref p_this_hitPlace, .ref p_this_printingHit, .ref p_this_missedDots, .ref p_this_firstPass, .ref p_this_lastPass, .ref p_this_dotsPrinted, .ref p_this_gutter, .int f_this_strayed, .ref p_this_canColumns, .ref p_this_canCount], jai G p_this_picture 16 c_this_picture, jai G p_this_head 9 c_this_head, jai G p_this_hitCount 16 c_this_hitCount]) hk (c_X1_maskNumber l G p_this p_this_picture p_this_head p_this_living p_this_hitCount p_this_hitPlace p_this_printingHit p_this_missedDots p_this_firstPass p_this_lastPass p_this_dotsPrinted p_this_gutter p_this_canColumns p_this_canCount f_this_strayed c_this_head x1 x2 _ h) 0 rfl rfl gX1_wantedHit_X1_maskNumber ndV_X1_maskNumber rfl rfl rfl ⟨Nat.le_of_ble_eq_true rfl, Nat.le_of_ble_eq_true rfl⟩ [0, 2] [1, 3] [2, 0, 3, 1] rfl rfl rfl rfl (by decide) rfl (fun _ => rfl) dX1_wantedHit_23 rfl (Nat.le_of_ble_eq_true rfl) ⟨Nat.zero_le _, Nat.zero_le _⟩ (fun r9 u8 h => ?_)
      refine jx_iload_n hk dX1_wantedHit_26 rfl 0 rfl ?_
      obtain ⟨b10, h⟩ := h
      refine jx_irem hk dX1_wantedHit_27 b10 ?_
      refine jx_topi (fun v11 e12 => ?_)
      replace h := h v11 e12
      refine jx_goto (tgt := 32) hk dX1_wantedHit_28 (by decide) ?_
      exact hret v11 () _ _ dX1_wantedHit_32 h
set_option maxHeartbeats 4000000 in
set_option maxRecDepth 100000 in
theorem c_X1_firstHitThatMay (l : Launch) (G : jG) (p_this p_this_picture p_this_head p_this_living p_this_hitCount p_this_hitPlace p_this_printingHit p_this_missedDots p_this_firstPass p_this_lastPass p_this_dotsPrinted p_this_gutter p_this_canColumns p_this_canCount : Nat) (f_this_strayed : Int32) (c_this_head : Nat → Int32) (c_this_hitCount : Nat → Int32) (c_this_hitPlace : Nat → Int32) (c_this_dotsPrinted : Nat → Int32) (c_this_canColumns : Nat → Int32) (x1 : Int32) (x2 : Int32) (x3 : Int32) (post : Int32 → Unit → Prop) (h : wp_X1_firstHitThatMay x1 x2 x3 c_this_head c_this_hitCount c_this_hitPlace c_this_dotsPrinted c_this_canColumns post) : jmi l yX1_firstHitThatMay wsX1_firstHitThatMay { frames := 0, cells := 0, slots := 0, locals := 0 } G [.ref p_this, .int x1, .int x2, .int x3] [job p_this 1 [.ref p_this_picture, .ref p_this_head, .ref p_this_living, .ref p_this_hitCount, .ref p_this_hitPlace, .ref p_this_printingHit, .ref p_this_missedDots, .ref p_this_firstPass, .ref p_this_lastPass, .ref p_this_dotsPrinted, .ref p_this_gutter, .int f_this_strayed, .ref p_this_canColumns, .ref p_this_canCount], jai G p_this_head 9 c_this_head, jai G p_this_hitCount 16 c_this_hitCount, jai G p_this_hitPlace 192 c_this_hitPlace, jai G p_this_dotsPrinted 96 c_this_dotsPrinted, jai G p_this_canColumns 12 c_this_canColumns] (fun u : Unit => [job p_this 1 [.ref p_this_picture, .ref p_this_head, .ref p_this_living, .ref p_this_hitCount, .ref p_this_hitPlace, .ref p_this_printingHit, .ref p_this_missedDots, .ref p_this_firstPass, .ref p_this_lastPass, .ref p_this_dotsPrinted, .ref p_this_gutter, .int f_this_strayed, .ref p_this_canColumns, .ref p_this_canCount], jai G p_this_head 9 c_this_head, jai G p_this_hitCount 16 c_this_hitCount, jai G p_this_hitPlace 192 c_this_hitPlace, jai G p_this_dotsPrinted 96 c_this_dotsPrinted, jai G p_this_canColumns 12 c_this_canColumns]) post 0 0 := by
  refine jm_i (cc := cX1_firstHitThatMay) (maxL := 8) (by decide) rfl (Nat.le_of_ble_eq_true rfl) ?_
  intro k A hk hin hret
  unfold wp_X1_firstHitThatMay at h
  have hiX1 : ∀ w ∈ u_ws RX1 TX1 14, w ∈ wsX1_firstHitThatMay := (fun w h => List.mem_cons_of_mem _ (List.mem_append_right _ h))
  show jx k G A 8 0 0 [job p_this 1 [.ref p_this_picture, .ref p_this_head, .ref p_this_living, .ref p_this_hitCount, .ref p_this_hitPlace, .ref p_this_printingHit, .ref p_this_missedDots, .ref p_this_firstPass, .ref p_this_lastPass, .ref p_this_dotsPrinted, .ref p_this_gutter, .int f_this_strayed, .ref p_this_canColumns, .ref p_this_canCount], jai G p_this_head 9 c_this_head, jai G p_this_hitCount 16 c_this_hitCount, jai G p_this_hitPlace 192 c_this_hitPlace, jai G p_this_dotsPrinted 96 c_this_dotsPrinted, jai G p_this_canColumns 12 c_this_canColumns] 0 [(0, .ref p_this), (1, .int x1), (2, .int x2), (3, .int x3)] []
  refine jx_aload_n hk dX1_firstHitThatMay_0 rfl 0 rfl ?_
  refine jx_get (C := RX1) (T := TX1) (N := 14) (ci := 1) (v := .ref p_this_hitCount) hk hiX1 0 rfl rfl 3 (by decide) (List.mem_of_getElem? (i := 1) rfl) rfl dX1_firstHitThatMay_1 ?_
  refine jx_iload_n hk dX1_firstHitThatMay_4 rfl 1 rfl ?_
  obtain ⟨b33, h⟩ := h
  refine jx_iaload hk dX1_firstHitThatMay_5 2 rfl b33 ?_
  refine jx_topi (fun v34 e35 => ?_)
  replace h := h v34 e35
  refine jx_istore (lv' := [(4, .int v34), (0, .ref p_this), (1, .int x1), (2, .int x2), (3, .int x3)]) hk dX1_firstHitThatMay_6 (by decide) rfl ?_
  refine jx_iconst (v := 0) hk dX1_firstHitThatMay_8 (by decide) ?_
  refine jx_istore (lv' := [(5, .int (0 : Int32)), (4, .int v34), (0, .ref p_this), (1, .int x1), (2, .int x2), (3, .int x3)]) hk dX1_firstHitThatMay_9 (by decide) rfl ?_
  obtain ⟨n36, h⟩ := h
  have L11 : ∀ (Ke_105 : Prop), (Ke_105  → jx k G A 8 0 0 [job p_this 1 [.ref p_this_picture, .ref p_this_head, .ref p_this_living, .ref p_this_hitCount, .ref p_this_hitPlace, .ref p_this_printingHit, .ref p_this_missedDots, .ref p_this_firstPass, .ref p_this_lastPass, .ref p_this_dotsPrinted, .ref p_this_gutter, .int f_this_strayed, .ref p_this_canColumns, .ref p_this_canCount], jai G p_this_head 9 c_this_head, jai G p_this_hitCount 16 c_this_hitCount, jai G p_this_hitPlace 192 c_this_hitPlace, jai G p_this_dotsPrinted 96 c_this_dotsPrinted, jai G p_this_canColumns 12 c_this_canColumns] 105 [] []) → ∀ (n : Nat) (i37 : Int32), wq_X1_firstHitThatMay_11 c_this_head c_this_hitCount c_this_hitPlace c_this_dotsPrinted c_this_canColumns x1 x2 x3 v34 post Ke_105 n i37 → jx k G A 8 0 0 [job p_this 1 [.ref p_this_picture, .ref p_this_head, .ref p_this_living, .ref p_this_hitCount, .ref p_this_hitPlace, .ref p_this_printingHit, .ref p_this_missedDots, .ref p_this_firstPass, .ref p_this_lastPass, .ref p_this_dotsPrinted, .ref p_this_gutter, .int f_this_strayed, .ref p_this_canColumns, .ref p_this_canCount], jai G p_this_head 9 c_this_head, jai G p_this_hitCount 16 c_this_hitCount, jai G p_this_hitPlace 192 c_this_hitPlace, jai G p_this_dotsPrinted 96 c_this_dotsPrinted, jai G p_this_canColumns 12 c_this_canColumns] 11 [(0, .ref p_this), (1, .int x1), (2, .int x2), (3, .int x3), (4, .int v34), (5, .int i37)] [] := by
    intro Ke_105 hE_105 n
    induction n with
    | zero =>
      intro _ h
      exact h.elim
    | succ n ih =>
      intro i37 h
      unfold wq_X1_firstHitThatMay_11 at h
      have J63 : ∀ (y38 : Int32) (y39 : Int32) (z40 : Int32), wq_X1_firstHitThatMay_63 c_this_head c_this_hitCount c_this_hitPlace c_this_dotsPrinted c_this_canColumns x1 x2 x3 v34 post (wq_X1_firstHitThatMay_11 c_this_head c_this_hitCount c_this_hitPlace c_this_dotsPrinted c_this_canColumns x1 x2 x3 v34 post Ke_105 n) Ke_105 y38 y39 z40 → jx k G A 8 0 0 [job p_this 1 [.ref p_this_picture, .ref p_this_head, .ref p_this_living, .ref p_this_hitCount, .ref p_this_hitPlace, .ref p_this_printingHit, .ref p_this_missedDots, .ref p_this_firstPass, .ref p_this_lastPass, .ref p_this_dotsPrinted, .ref p_this_gutter, .int f_this_strayed, .ref p_this_canColumns, .ref p_this_canCount], jai G p_this_head 9 c_this_head, jai G p_this_hitCount 16 c_this_hitCount, jai G p_this_hitPlace 192 c_this_hitPlace, jai G p_this_dotsPrinted 96 c_this_dotsPrinted, jai G p_this_canColumns 12 c_this_canColumns] 63 [(0, .ref p_this), (1, .int x1), (2, .int x2), (3, .int x3), (4, .int v34), (5, .int y38), (6, .int y39)] [.int z40] := by
        intro y38 y39 z40 h
        unfold wq_X1_firstHitThatMay_63 at h
        refine jx_istore (lv' := [(7, .int z40), (0, .ref p_this), (1, .int x1), (2, .int x2), (3, .int x3), (4, .int v34), (5, .int y38), (6, .int y39)]) hk dX1_firstHitThatMay_63 (by decide) rfl ?_
        refine jx_iload hk dX1_firstHitThatMay_65 0 rfl ?_
        refine jx_if_eq (tgt := 99) hk dX1_firstHitThatMay_67 (by decide) (fun c41 => ?_) (fun c41 => ?_)
        · replace h := h.1 c41
          refine jx_iincN (lvf := fun vq => [(5, .int vq), (7, .int z40), (0, .ref p_this), (1, .int x1), (2, .int x2), (3, .int x3), (4, .int v34), (6, .int y39)]) (c := 1) hk dX1_firstHitThatMay_99 6 rfl (by decide) (by decide) (fun _ => rfl) (fun v42 e43 => ?_)
          replace h := h v42 e43
          refine jx_goto (tgt := 11) hk dX1_firstHitThatMay_102 (by decide) ?_
          refine jx_lvs (lv' := [(0, .ref p_this), (1, .int x1), (2, .int x2), (3, .int x3), (4, .int v34), (5, .int v42)]) [2, 3, 4, 5, 6, 0] rfl ?_
          exact ih _ h
        · replace h := h.2 c41
          refine jx_aload_n hk dX1_firstHitThatMay_70 rfl 1 rfl ?_
          refine jx_get (C := RX1) (T := TX1) (N := 14) (ci := 1) (v := .ref p_this_dotsPrinted) hk hiX1 0 rfl rfl 9 (by decide) (List.mem_of_getElem? (i := 3) rfl) rfl dX1_firstHitThatMay_71 ?_
          refine jx_aload_n hk dX1_firstHitThatMay_74 rfl 1 rfl ?_
          refine jx_get (C := RX1) (T := TX1) (N := 14) (ci := 1) (v := .ref p_this_hitPlace) hk hiX1 0 rfl rfl 4 (by decide) (List.mem_of_getElem? (i := 4) rfl) rfl dX1_firstHitThatMay_75 ?_
          refine jx_iload_n hk dX1_firstHitThatMay_78 rfl 2 rfl ?_
          refine jx_bipush (v := 12) hk dX1_firstHitThatMay_79 (by decide) ?_
          refine jx_imul hk dX1_firstHitThatMay_81 ?_
          refine jx_topi (fun v44 e45 => ?_)
          replace h := h v44 e45
          refine jx_iload hk dX1_firstHitThatMay_82 7 rfl ?_
          refine jx_iadd hk dX1_firstHitThatMay_84 ?_
          refine jx_topi (fun v46 e47 => ?_)
          replace h := h v46 e47
          obtain ⟨b48, h⟩ := h
          refine jx_iaload hk dX1_firstHitThatMay_85 3 rfl b48 ?_
          refine jx_topi (fun v49 e50 => ?_)
          replace h := h v49 e50
          obtain ⟨b51, h⟩ := h
          refine jx_iaload hk dX1_firstHitThatMay_86 4 rfl b51 ?_
          refine jx_topi (fun v52 e53 => ?_)
          replace h := h v52 e53
          refine jx_aload_n hk dX1_firstHitThatMay_87 rfl 1 rfl ?_
          refine jx_get (C := RX1) (T := TX1) (N := 14) (ci := 1) (v := .ref p_this_head) hk hiX1 0 rfl rfl 1 (by decide) (List.mem_of_getElem? (i := 5) rfl) rfl dX1_firstHitThatMay_88 ?_
          refine jx_iconst (v := 5) hk dX1_firstHitThatMay_91 (by decide) ?_
          refine jx_ialoadC (j := 5) hk dX1_firstHitThatMay_92 1 rfl (by decide) ?_
          refine jx_icmp_ge (tgt := 99) hk dX1_firstHitThatMay_93 (by decide) (fun c54 => ?_) (fun c54 => ?_)
          · replace h := h.1 c54
            refine jx_iincN (lvf := fun vq => [(5, .int vq), (7, .int z40), (0, .ref p_this), (1, .int x1), (2, .int x2), (3, .int x3), (4, .int v34), (6, .int y39)]) (c := 1) hk dX1_firstHitThatMay_99 6 rfl (by decide) (by decide) (fun _ => rfl) (fun v55 e56 => ?_)
            replace h := h v55 e56
            refine jx_goto (tgt := 11) hk dX1_firstHitThatMay_102 (by decide) ?_
            refine jx_lvs (lv' := [(0, .ref p_this), (1, .int x1), (2, .int x2), (3, .int x3), (4, .int v34), (5, .int v55)]) [2, 3, 4, 5, 6, 0] rfl ?_
            exact ih _ h
          · replace h := h.2 c54
            refine jx_iload hk dX1_firstHitThatMay_96 7 rfl ?_
            exact hret y39 () _ _ dX1_firstHitThatMay_98 h
      have J41 : ∀ (y57 : Int32) (z58 : Int32), wq_X1_firstHitThatMay_41 c_this_head c_this_hitCount c_this_hitPlace c_this_dotsPrinted c_this_canColumns x1 x2 x3 v34 post (wq_X1_firstHitThatMay_11 c_this_head c_this_hitCount c_this_hitPlace c_this_dotsPrinted c_this_canColumns x1 x2 x3 v34 post Ke_105 n) Ke_105 y57 z58 → jx k G A 8 0 0 [job p_this 1 [.ref p_this_picture, .ref p_this_head, .ref p_this_living, .ref p_this_hitCount, .ref p_this_hitPlace, .ref p_this_printingHit, .ref p_this_missedDots, .ref p_this_firstPass, .ref p_this_lastPass, .ref p_this_dotsPrinted, .ref p_this_gutter, .int f_this_strayed, .ref p_this_canColumns, .ref p_this_canCount], jai G p_this_head 9 c_this_head, jai G p_this_hitCount 16 c_this_hitCount, jai G p_this_hitPlace 192 c_this_hitPlace, jai G p_this_dotsPrinted 96 c_this_dotsPrinted, jai G p_this_canColumns 12 c_this_canColumns] 41 [(0, .ref p_this), (1, .int x1), (2, .int x2), (3, .int x3), (4, .int v34), (5, .int y57)] [.int z58] := by
        intro y57 z58 h
        unfold wq_X1_firstHitThatMay_41 at h
        refine jx_istore (lv' := [(6, .int z58), (0, .ref p_this), (1, .int x1), (2, .int x2), (3, .int x3), (4, .int v34), (5, .int y57)]) hk dX1_firstHitThatMay_41 (by decide) rfl ?_
        refine jx_aload_n hk dX1_firstHitThatMay_43 rfl 1 rfl ?_
        refine jx_get (C := RX1) (T := TX1) (N := 14) (ci := 1) (v := .ref p_this_canColumns) hk hiX1 0 rfl rfl 12 (by decide) (List.mem_of_getElem? (i := 2) rfl) rfl dX1_firstHitThatMay_44 ?_
        refine jx_iload hk dX1_firstHitThatMay_47 0 rfl ?_
        obtain ⟨b59, h⟩ := h
        refine jx_iaload hk dX1_firstHitThatMay_49 5 rfl b59 ?_
        refine jx_topi (fun v60 e61 => ?_)
        replace h := h v60 e61
        refine jx_iload_n hk dX1_firstHitThatMay_50 rfl 3 rfl ?_
        refine jx_ishr hk dX1_firstHitThatMay_51 ?_
        refine jx_topi (fun v62 e63 => ?_)
        replace h := h v62 e63
        refine jx_iconst (v := 1) hk dX1_firstHitThatMay_52 (by decide) ?_
        refine jx_iand hk dX1_firstHitThatMay_53 ?_
        refine jx_topi (fun v64 e65 => ?_)
        replace h := h v64 e65
        refine jx_iconst (v := 1) hk dX1_firstHitThatMay_54 (by decide) ?_
        refine jx_icmp_ne (tgt := 62) hk dX1_firstHitThatMay_55 (by decide) (fun c66 => ?_) (fun c66 => ?_)
        · replace h := h.1 c66
          refine jx_iconst (v := 0) hk dX1_firstHitThatMay_62 (by decide) ?_
          refine jx_lvs (lv' := [(0, .ref p_this), (1, .int x1), (2, .int x2), (3, .int x3), (4, .int v34), (5, .int y57), (6, .int z58)]) [1, 2, 3, 4, 5, 6, 0] rfl ?_
          exact J63 _ _ _ h
        · replace h := h.2 c66
          refine jx_iconst (v := 1) hk dX1_firstHitThatMay_58 (by decide) ?_
          refine jx_goto (tgt := 63) hk dX1_firstHitThatMay_59 (by decide) ?_
          refine jx_lvs (lv' := [(0, .ref p_this), (1, .int x1), (2, .int x2), (3, .int x3), (4, .int v34), (5, .int y57), (6, .int z58)]) [1, 2, 3, 4, 5, 6, 0] rfl ?_
          exact J63 _ _ _ h
      refine jx_iload hk dX1_firstHitThatMay_11 5 rfl ?_
      refine jx_iload hk dX1_firstHitThatMay_13 4 rfl ?_
      refine jx_icmp_ge (tgt := 105) hk dX1_firstHitThatMay_15 (by decide) (fun c67 => ?_) (fun c67 => ?_)
      · replace h := h.1 c67
        refine jx_lvs (lv' := []) [] rfl ?_
        exact hE_105  h
      · replace h := h.2 c67
        refine jx_iload_n hk dX1_firstHitThatMay_18 rfl 3 rfl ?_
        refine jx_iload hk dX1_firstHitThatMay_19 5 rfl ?_
        refine jx_iadd hk dX1_firstHitThatMay_21 ?_
        refine jx_topi (fun v68 e69 => ?_)
        replace h := h v68 e69
        refine jx_iload hk dX1_firstHitThatMay_22 4 rfl ?_
        refine jx_icmp_ge (tgt := 34) hk dX1_firstHitThatMay_24 (by decide) (fun c70 => ?_) (fun c70 => ?_)
        · replace h := h.1 c70
          refine jx_iload_n hk dX1_firstHitThatMay_34 rfl 3 rfl ?_
          refine jx_iload hk dX1_firstHitThatMay_35 5 rfl ?_
          refine jx_iadd hk dX1_firstHitThatMay_37 ?_
          refine jx_topi (fun v71 e72 => ?_)
          replace h := h v71 e72
          refine jx_iload hk dX1_firstHitThatMay_38 4 rfl ?_
          refine jx_isub hk dX1_firstHitThatMay_40 ?_
          exact J41 _ _ h
        · replace h := h.2 c70
          refine jx_iload_n hk dX1_firstHitThatMay_27 rfl 3 rfl ?_
          refine jx_iload hk dX1_firstHitThatMay_28 5 rfl ?_
          refine jx_iadd hk dX1_firstHitThatMay_30 ?_
          refine jx_topi (fun v73 e74 => ?_)
          replace h := h v73 e74
          refine jx_goto (tgt := 41) hk dX1_firstHitThatMay_31 (by decide) ?_
          exact J41 _ _ h
  refine jx_lvs (lv' := [(0, .ref p_this), (1, .int x1), (2, .int x2), (3, .int x3), (4, .int v34), (5, .int (0 : Int32))]) [2, 3, 4, 5, 1, 0] rfl ?_
  refine L11 _ ?_ n36 _ h
  intro  h
  refine jx_iconst (v := (-1)) hk dX1_firstHitThatMay_105 (by decide) ?_
  exact hret (-1 : Int32) () _ _ dX1_firstHitThatMay_106 h
