abbrev g_X2_clear (d pc : Nat) (vals : List (Nat × tk_V)) (σ : tk_S) (Q : tk_S → Prop) : Prop := tk_G RX2 cX2_clear 2 none d pc vals σ (tk_v Q)
set_option maxHeartbeats 4000000 in
set_option maxRecDepth 100000 in
theorem b_X2_clear_2 (d : Nat) (k0 : Nat) (h_0 : tk_sh k0 = tk_pins) (x1 : Int32) (σ : tk_S) (Q : tk_S → Prop) (h : (24 ≤ x1 → Q σ) ∧ (¬ 24 ≤ x1 → vp_in x1 24 ∧ (g_X2_clear d 2 [(0, aN k0), (1, aI (x1 + 1))] (tk_up σ (k0 + 1) (Int32.toNatClampNeg x1) 0) Q))) : g_X2_clear d 2 [(0, aN k0), (1, aI x1)] σ Q := by
  intro p l e s m args below meth c D cy ad base H locs ls C w hl
  obtain ⟨hx, hb, hml, hown, hts, hr, hlk⟩ := id C
  have hl : lv_has ls 2 [(0, .ref (ad k0)), (1, .int x1)] := hl
  refine lv_iload_n hx hb dX2_clear_2 rfl (lv_at hl 1 rfl) ?_
  refine lv_bipush (v := 24) hx hb dX2_clear_3 (by decide) ?_
  refine lv_icmp_ge (tgt := 21) hx hb dX2_clear_5 (by decide) (fun c1 => ?_) (fun c1 => ?_)
  · have h := h.1 c1
    exact tk_retv C w dX2_clear_21 h
  · have h := h.2 c1
    refine lv_aload_n hx hb dX2_clear_8 rfl (lv_at hl 0 rfl) ?_
    refine tk_get (k := k0) (v := .ref (ad (k0 + 1))) hx hb hts hown w h_0 rfl inlX2 0 (by decide) mw_52 rfl dX2_clear_9 ?_
    refine lv_iload_n hx hb dX2_clear_12 rfl (lv_at hl 1 rfl) ?_
    refine lv_iconst (v := 0) hx hb dX2_clear_13 (by decide) ?_
    obtain ⟨hi2, h⟩ := h
    refine tk_iast (k := k0 + 1) hx hb w (tk_p1 h_0) hi2 dX2_clear_14 (fun H locs w => ?_)
    refine lv_iinc (v := x1 + 1) (lv' := [(1, .int (x1 + 1)), (0, .ref (ad k0))]) hx hb dX2_clear_15 hl (k := 1) rfl rfl (by decide) rfl (fun ls hl => ?_)
    refine lv_goto (tgt := 2) hx hb dX2_clear_18 (by decide) ?_
    exact h _ _ _ _ _ _ _ _ _ _ _ _ _ _ _ _ C w (lv_sub hl [1, 0] rfl)
set_option maxHeartbeats 4000000 in
set_option maxRecDepth 100000 in
theorem b_X2_clear_0 (d : Nat) (k0 : Nat) (h_0 : tk_sh k0 = tk_pins) (σ : tk_S) (Q : tk_S → Prop) (h : g_X2_clear d 2 [(0, aN k0), (1, aI 0)] σ Q) : g_X2_clear d 0 [(0, aN k0)] σ Q := by
  intro p l e s m args below meth c D cy ad base H locs ls C w hl
  obtain ⟨hx, hb, hml, hown, hts, hr, hlk⟩ := id C
  have hl : lv_has ls 2 [(0, .ref (ad k0))] := hl
  refine lv_iconst (v := 0) hx hb dX2_clear_0 (by decide) ?_
  refine lv_istore_n (lv' := [(1, .int 0), (0, .ref (ad k0))]) hx hb dX2_clear_1 rfl hl (by decide) rfl (fun ls hl => ?_)
  exact h _ _ _ _ _ _ _ _ _ _ _ _ _ _ _ _ C w (lv_sub hl [1, 0] rfl)
theorem e_X2_clear (d : Nat) (k0 : Nat) {σ : tk_S} {Q : tk_S → Prop} (h : g_X2_clear d 0 [(0, aN k0)] σ Q) : p_X2_clear d [aN k0] σ Q := tk_entry (by decide) rfl (fun _ => Nat.le_of_ble_eq_true rfl) (fun _ => rfl) h
abbrev g_X2_copy (d pc : Nat) (vals : List (Nat × tk_V)) (σ : tk_S) (Q : tk_S → Prop) : Prop := tk_G RX2 cX2_copy 3 none d pc vals σ (tk_v Q)
set_option maxHeartbeats 4000000 in
set_option maxRecDepth 100000 in
theorem b_X2_copy_2 (d : Nat) (k0 : Nat) (h_0 : tk_sh k0 = tk_pins) (k1 : Nat) (h_1 : tk_sh k1 = tk_pins) (x2 : Int32) (σ : tk_S) (Q : tk_S → Prop) (h : (24 ≤ x2 → Q σ) ∧ (¬ 24 ≤ x2 → vp_in x2 24 ∧ (vp_in x2 24 ∧ (g_X2_copy d 2 [(0, aN k0), (1, aN k1), (2, aI (x2 + 1))] (tk_up σ (k0 + 1) (Int32.toNatClampNeg x2) (σ.1 (k1 + 1) (Int32.toNatClampNeg x2))) Q)))) : g_X2_copy d 2 [(0, aN k0), (1, aN k1), (2, aI x2)] σ Q := by
  intro p l e s m args below meth c D cy ad base H locs ls C w hl
  obtain ⟨hx, hb, hml, hown, hts, hr, hlk⟩ := id C
  have hl : lv_has ls 3 [(0, .ref (ad k0)), (1, .ref (ad k1)), (2, .int x2)] := hl
  refine lv_iload_n hx hb dX2_copy_2 rfl (lv_at hl 2 rfl) ?_
  refine lv_bipush (v := 24) hx hb dX2_copy_3 (by decide) ?_
  refine lv_icmp_ge (tgt := 26) hx hb dX2_copy_5 (by decide) (fun c1 => ?_) (fun c1 => ?_)
  · have h := h.1 c1
    exact tk_retv C w dX2_copy_26 h
  · have h := h.2 c1
    refine lv_aload_n hx hb dX2_copy_8 rfl (lv_at hl 0 rfl) ?_
    refine tk_get (k := k0) (v := .ref (ad (k0 + 1))) hx hb hts hown w h_0 rfl inlX2 0 (by decide) mw_52 rfl dX2_copy_9 ?_
    refine lv_iload_n hx hb dX2_copy_12 rfl (lv_at hl 2 rfl) ?_
    refine lv_aload_n hx hb dX2_copy_13 rfl (lv_at hl 1 rfl) ?_
    refine tk_get (k := k1) (v := .ref (ad (k1 + 1))) hx hb hts hown w h_1 rfl inlX2 0 (by decide) mw_52 rfl dX2_copy_14 ?_
    refine lv_iload_n hx hb dX2_copy_17 rfl (lv_at hl 2 rfl) ?_
    obtain ⟨hi2, h⟩ := h
    refine tk_iald (k := k1 + 1) hx hb w (tk_p1 h_1) hi2 dX2_copy_18 ?_
    obtain ⟨hi3, h⟩ := h
    refine tk_iast (k := k0 + 1) hx hb w (tk_p1 h_0) hi3 dX2_copy_19 (fun H locs w => ?_)
    refine lv_iinc (v := x2 + 1) (lv' := [(2, .int (x2 + 1)), (0, .ref (ad k0)), (1, .ref (ad k1))]) hx hb dX2_copy_20 hl (k := 2) rfl rfl (by decide) rfl (fun ls hl => ?_)
    refine lv_goto (tgt := 2) hx hb dX2_copy_23 (by decide) ?_
    exact h _ _ _ _ _ _ _ _ _ _ _ _ _ _ _ _ C w (lv_sub hl [1, 2, 0] rfl)
set_option maxHeartbeats 4000000 in
set_option maxRecDepth 100000 in
theorem b_X2_copy_0 (d : Nat) (k0 : Nat) (h_0 : tk_sh k0 = tk_pins) (k1 : Nat) (h_1 : tk_sh k1 = tk_pins) (σ : tk_S) (Q : tk_S → Prop) (h : g_X2_copy d 2 [(0, aN k0), (1, aN k1), (2, aI 0)] σ Q) : g_X2_copy d 0 [(0, aN k0), (1, aN k1)] σ Q := by
  intro p l e s m args below meth c D cy ad base H locs ls C w hl
  obtain ⟨hx, hb, hml, hown, hts, hr, hlk⟩ := id C
  have hl : lv_has ls 3 [(0, .ref (ad k0)), (1, .ref (ad k1))] := hl
  refine lv_iconst (v := 0) hx hb dX2_copy_0 (by decide) ?_
  refine lv_istore_n (lv' := [(2, .int 0), (0, .ref (ad k0)), (1, .ref (ad k1))]) hx hb dX2_copy_1 rfl hl (by decide) rfl (fun ls hl => ?_)
  exact h _ _ _ _ _ _ _ _ _ _ _ _ _ _ _ _ C w (lv_sub hl [1, 2, 0] rfl)
theorem e_X2_copy (d : Nat) (k0 : Nat) (k1 : Nat) {σ : tk_S} {Q : tk_S → Prop} (h : g_X2_copy d 0 [(0, aN k0), (1, aN k1)] σ Q) : p_X2_copy d [aN k0, aN k1] σ Q := tk_entry (by decide) rfl (fun _ => Nat.le_of_ble_eq_true rfl) (fun _ => rfl) h
abbrev g_X2_join (d pc : Nat) (vals : List (Nat × tk_V)) (σ : tk_S) (Q : tk_S → Prop) : Prop := tk_G RX2 cX2_join 3 none d pc vals σ (tk_v Q)
set_option maxHeartbeats 4000000 in
set_option maxRecDepth 100000 in
theorem b_X2_join_2 (d : Nat) (k0 : Nat) (h_0 : tk_sh k0 = tk_pins) (k1 : Nat) (h_1 : tk_sh k1 = tk_pins) (x2 : Int32) (σ : tk_S) (Q : tk_S → Prop) (h : (24 ≤ x2 → Q σ) ∧ (¬ 24 ≤ x2 → vp_in x2 24 ∧ (vp_in x2 24 ∧ (vp_in x2 24 ∧ (g_X2_join d 2 [(0, aN k0), (1, aN k1), (2, aI (x2 + 1))] (tk_up σ (k0 + 1) (Int32.toNatClampNeg x2) ((σ.1 (k0 + 1) (Int32.toNatClampNeg x2)) ||| (σ.1 (k1 + 1) (Int32.toNatClampNeg x2)))) Q))))) : g_X2_join d 2 [(0, aN k0), (1, aN k1), (2, aI x2)] σ Q := by
  intro p l e s m args below meth c D cy ad base H locs ls C w hl
  obtain ⟨hx, hb, hml, hown, hts, hr, hlk⟩ := id C
  have hl : lv_has ls 3 [(0, .ref (ad k0)), (1, .ref (ad k1)), (2, .int x2)] := hl
  refine lv_iload_n hx hb dX2_join_2 rfl (lv_at hl 2 rfl) ?_
  refine lv_bipush (v := 24) hx hb dX2_join_3 (by decide) ?_
  refine lv_icmp_ge (tgt := 29) hx hb dX2_join_5 (by decide) (fun c1 => ?_) (fun c1 => ?_)
  · have h := h.1 c1
    exact tk_retv C w dX2_join_29 h
  · have h := h.2 c1
    refine lv_aload_n hx hb dX2_join_8 rfl (lv_at hl 0 rfl) ?_
    refine tk_get (k := k0) (v := .ref (ad (k0 + 1))) hx hb hts hown w h_0 rfl inlX2 0 (by decide) mw_52 rfl dX2_join_9 ?_
    refine lv_iload_n hx hb dX2_join_12 rfl (lv_at hl 2 rfl) ?_
    refine lv_dup2_11 hx hb dX2_join_13 rfl rfl ?_
    obtain ⟨hi2, h⟩ := h
    refine tk_iald (k := k0 + 1) hx hb w (tk_p1 h_0) hi2 dX2_join_14 ?_
    refine lv_aload_n hx hb dX2_join_15 rfl (lv_at hl 1 rfl) ?_
    refine tk_get (k := k1) (v := .ref (ad (k1 + 1))) hx hb hts hown w h_1 rfl inlX2 0 (by decide) mw_52 rfl dX2_join_16 ?_
    refine lv_iload_n hx hb dX2_join_19 rfl (lv_at hl 2 rfl) ?_
    obtain ⟨hi3, h⟩ := h
    refine tk_iald (k := k1 + 1) hx hb w (tk_p1 h_1) hi3 dX2_join_20 ?_
    refine lv_ior hx hb dX2_join_21 ?_
    obtain ⟨hi4, h⟩ := h
    refine tk_iast (k := k0 + 1) hx hb w (tk_p1 h_0) hi4 dX2_join_22 (fun H locs w => ?_)
    refine lv_iinc (v := x2 + 1) (lv' := [(2, .int (x2 + 1)), (0, .ref (ad k0)), (1, .ref (ad k1))]) hx hb dX2_join_23 hl (k := 2) rfl rfl (by decide) rfl (fun ls hl => ?_)
    refine lv_goto (tgt := 2) hx hb dX2_join_26 (by decide) ?_
    exact h _ _ _ _ _ _ _ _ _ _ _ _ _ _ _ _ C w (lv_sub hl [1, 2, 0] rfl)
set_option maxHeartbeats 4000000 in
set_option maxRecDepth 100000 in
theorem b_X2_join_0 (d : Nat) (k0 : Nat) (h_0 : tk_sh k0 = tk_pins) (k1 : Nat) (h_1 : tk_sh k1 = tk_pins) (σ : tk_S) (Q : tk_S → Prop) (h : g_X2_join d 2 [(0, aN k0), (1, aN k1), (2, aI 0)] σ Q) : g_X2_join d 0 [(0, aN k0), (1, aN k1)] σ Q := by
  intro p l e s m args below meth c D cy ad base H locs ls C w hl
  obtain ⟨hx, hb, hml, hown, hts, hr, hlk⟩ := id C
  have hl : lv_has ls 3 [(0, .ref (ad k0)), (1, .ref (ad k1))] := hl
  refine lv_iconst (v := 0) hx hb dX2_join_0 (by decide) ?_
  refine lv_istore_n (lv' := [(2, .int 0), (0, .ref (ad k0)), (1, .ref (ad k1))]) hx hb dX2_join_1 rfl hl (by decide) rfl (fun ls hl => ?_)
  exact h _ _ _ _ _ _ _ _ _ _ _ _ _ _ _ _ C w (lv_sub hl [1, 2, 0] rfl)
theorem e_X2_join (d : Nat) (k0 : Nat) (k1 : Nat) {σ : tk_S} {Q : tk_S → Prop} (h : g_X2_join d 0 [(0, aN k0), (1, aN k1)] σ Q) : p_X2_join d [aN k0, aN k1] σ Q := tk_entry (by decide) rfl (fun _ => Nat.le_of_ble_eq_true rfl) (fun _ => rfl) h
abbrev g_X2_drop (d pc : Nat) (vals : List (Nat × tk_V)) (σ : tk_S) (Q : tk_S → Prop) : Prop := tk_G RX2 cX2_drop 3 none d pc vals σ (tk_v Q)
set_option maxHeartbeats 4000000 in
set_option maxRecDepth 100000 in
theorem b_X2_drop_2 (d : Nat) (k0 : Nat) (h_0 : tk_sh k0 = tk_pins) (k1 : Nat) (h_1 : tk_sh k1 = tk_pins) (x2 : Int32) (σ : tk_S) (Q : tk_S → Prop) (h : (24 ≤ x2 → Q σ) ∧ (¬ 24 ≤ x2 → vp_in x2 24 ∧ (vp_in x2 24 ∧ (vp_in x2 24 ∧ (g_X2_drop d 2 [(0, aN k0), (1, aN k1), (2, aI (x2 + 1))] (tk_up σ (k0 + 1) (Int32.toNatClampNeg x2) ((σ.1 (k0 + 1) (Int32.toNatClampNeg x2)) &&& ((σ.1 (k1 + 1) (Int32.toNatClampNeg x2)) ^^^ (-1)))) Q))))) : g_X2_drop d 2 [(0, aN k0), (1, aN k1), (2, aI x2)] σ Q := by
  intro p l e s m args below meth c D cy ad base H locs ls C w hl
  obtain ⟨hx, hb, hml, hown, hts, hr, hlk⟩ := id C
  have hl : lv_has ls 3 [(0, .ref (ad k0)), (1, .ref (ad k1)), (2, .int x2)] := hl
  refine lv_iload_n hx hb dX2_drop_2 rfl (lv_at hl 2 rfl) ?_
  refine lv_bipush (v := 24) hx hb dX2_drop_3 (by decide) ?_
  refine lv_icmp_ge (tgt := 31) hx hb dX2_drop_5 (by decide) (fun c1 => ?_) (fun c1 => ?_)
  · have h := h.1 c1
    exact tk_retv C w dX2_drop_31 h
  · have h := h.2 c1
    refine lv_aload_n hx hb dX2_drop_8 rfl (lv_at hl 0 rfl) ?_
    refine tk_get (k := k0) (v := .ref (ad (k0 + 1))) hx hb hts hown w h_0 rfl inlX2 0 (by decide) mw_52 rfl dX2_drop_9 ?_
    refine lv_iload_n hx hb dX2_drop_12 rfl (lv_at hl 2 rfl) ?_
    refine lv_dup2_11 hx hb dX2_drop_13 rfl rfl ?_
    obtain ⟨hi2, h⟩ := h
    refine tk_iald (k := k0 + 1) hx hb w (tk_p1 h_0) hi2 dX2_drop_14 ?_
    refine lv_aload_n hx hb dX2_drop_15 rfl (lv_at hl 1 rfl) ?_
    refine tk_get (k := k1) (v := .ref (ad (k1 + 1))) hx hb hts hown w h_1 rfl inlX2 0 (by decide) mw_52 rfl dX2_drop_16 ?_
    refine lv_iload_n hx hb dX2_drop_19 rfl (lv_at hl 2 rfl) ?_
    obtain ⟨hi3, h⟩ := h
    refine tk_iald (k := k1 + 1) hx hb w (tk_p1 h_1) hi3 dX2_drop_20 ?_
    refine lv_iconst (v := (-1)) hx hb dX2_drop_21 (by decide) ?_
    refine lv_ixor hx hb dX2_drop_22 ?_
    refine lv_iand hx hb dX2_drop_23 ?_
    obtain ⟨hi4, h⟩ := h
    refine tk_iast (k := k0 + 1) hx hb w (tk_p1 h_0) hi4 dX2_drop_24 (fun H locs w => ?_)
    refine lv_iinc (v := x2 + 1) (lv' := [(2, .int (x2 + 1)), (0, .ref (ad k0)), (1, .ref (ad k1))]) hx hb dX2_drop_25 hl (k := 2) rfl rfl (by decide) rfl (fun ls hl => ?_)
    refine lv_goto (tgt := 2) hx hb dX2_drop_28 (by decide) ?_
    exact h _ _ _ _ _ _ _ _ _ _ _ _ _ _ _ _ C w (lv_sub hl [1, 2, 0] rfl)
set_option maxHeartbeats 4000000 in
set_option maxRecDepth 100000 in
theorem b_X2_drop_0 (d : Nat) (k0 : Nat) (h_0 : tk_sh k0 = tk_pins) (k1 : Nat) (h_1 : tk_sh k1 = tk_pins) (σ : tk_S) (Q : tk_S → Prop) (h : g_X2_drop d 2 [(0, aN k0), (1, aN k1), (2, aI 0)] σ Q) : g_X2_drop d 0 [(0, aN k0), (1, aN k1)] σ Q := by
  intro p l e s m args below meth c D cy ad base H locs ls C w hl
  obtain ⟨hx, hb, hml, hown, hts, hr, hlk⟩ := id C
  have hl : lv_has ls 3 [(0, .ref (ad k0)), (1, .ref (ad k1))] := hl
  refine lv_iconst (v := 0) hx hb dX2_drop_0 (by decide) ?_
  refine lv_istore_n (lv' := [(2, .int 0), (0, .ref (ad k0)), (1, .ref (ad k1))]) hx hb dX2_drop_1 rfl hl (by decide) rfl (fun ls hl => ?_)
  exact h _ _ _ _ _ _ _ _ _ _ _ _ _ _ _ _ C w (lv_sub hl [1, 2, 0] rfl)
theorem e_X2_drop (d : Nat) (k0 : Nat) (k1 : Nat) {σ : tk_S} {Q : tk_S → Prop} (h : g_X2_drop d 0 [(0, aN k0), (1, aN k1)] σ Q) : p_X2_drop d [aN k0, aN k1] σ Q := tk_entry (by decide) rfl (fun _ => Nat.le_of_ble_eq_true rfl) (fun _ => rfl) h
abbrev g_X2_keepOnly (d pc : Nat) (vals : List (Nat × tk_V)) (σ : tk_S) (Q : tk_S → Prop) : Prop := tk_G RX2 cX2_keepOnly 3 none d pc vals σ (tk_v Q)
set_option maxHeartbeats 4000000 in
set_option maxRecDepth 100000 in
theorem b_X2_keepOnly_2 (d : Nat) (k0 : Nat) (h_0 : tk_sh k0 = tk_pins) (k1 : Nat) (h_1 : tk_sh k1 = tk_pins) (x2 : Int32) (σ : tk_S) (Q : tk_S → Prop) (h : (24 ≤ x2 → Q σ) ∧ (¬ 24 ≤ x2 → vp_in x2 24 ∧ (vp_in x2 24 ∧ (vp_in x2 24 ∧ (g_X2_keepOnly d 2 [(0, aN k0), (1, aN k1), (2, aI (x2 + 1))] (tk_up σ (k0 + 1) (Int32.toNatClampNeg x2) ((σ.1 (k0 + 1) (Int32.toNatClampNeg x2)) &&& (σ.1 (k1 + 1) (Int32.toNatClampNeg x2)))) Q))))) : g_X2_keepOnly d 2 [(0, aN k0), (1, aN k1), (2, aI x2)] σ Q := by
  intro p l e s m args below meth c D cy ad base H locs ls C w hl
  obtain ⟨hx, hb, hml, hown, hts, hr, hlk⟩ := id C
  have hl : lv_has ls 3 [(0, .ref (ad k0)), (1, .ref (ad k1)), (2, .int x2)] := hl
  refine lv_iload_n hx hb dX2_keepOnly_2 rfl (lv_at hl 2 rfl) ?_
  refine lv_bipush (v := 24) hx hb dX2_keepOnly_3 (by decide) ?_
  refine lv_icmp_ge (tgt := 29) hx hb dX2_keepOnly_5 (by decide) (fun c1 => ?_) (fun c1 => ?_)
  · have h := h.1 c1
    exact tk_retv C w dX2_keepOnly_29 h
  · have h := h.2 c1
    refine lv_aload_n hx hb dX2_keepOnly_8 rfl (lv_at hl 0 rfl) ?_
    refine tk_get (k := k0) (v := .ref (ad (k0 + 1))) hx hb hts hown w h_0 rfl inlX2 0 (by decide) mw_52 rfl dX2_keepOnly_9 ?_
    refine lv_iload_n hx hb dX2_keepOnly_12 rfl (lv_at hl 2 rfl) ?_
    refine lv_dup2_11 hx hb dX2_keepOnly_13 rfl rfl ?_
    obtain ⟨hi2, h⟩ := h
    refine tk_iald (k := k0 + 1) hx hb w (tk_p1 h_0) hi2 dX2_keepOnly_14 ?_
    refine lv_aload_n hx hb dX2_keepOnly_15 rfl (lv_at hl 1 rfl) ?_
    refine tk_get (k := k1) (v := .ref (ad (k1 + 1))) hx hb hts hown w h_1 rfl inlX2 0 (by decide) mw_52 rfl dX2_keepOnly_16 ?_
    refine lv_iload_n hx hb dX2_keepOnly_19 rfl (lv_at hl 2 rfl) ?_
    obtain ⟨hi3, h⟩ := h
    refine tk_iald (k := k1 + 1) hx hb w (tk_p1 h_1) hi3 dX2_keepOnly_20 ?_
    refine lv_iand hx hb dX2_keepOnly_21 ?_
    obtain ⟨hi4, h⟩ := h
    refine tk_iast (k := k0 + 1) hx hb w (tk_p1 h_0) hi4 dX2_keepOnly_22 (fun H locs w => ?_)
    refine lv_iinc (v := x2 + 1) (lv' := [(2, .int (x2 + 1)), (0, .ref (ad k0)), (1, .ref (ad k1))]) hx hb dX2_keepOnly_23 hl (k := 2) rfl rfl (by decide) rfl (fun ls hl => ?_)
    refine lv_goto (tgt := 2) hx hb dX2_keepOnly_26 (by decide) ?_
    exact h _ _ _ _ _ _ _ _ _ _ _ _ _ _ _ _ C w (lv_sub hl [1, 2, 0] rfl)
set_option maxHeartbeats 4000000 in
set_option maxRecDepth 100000 in
theorem b_X2_keepOnly_0 (d : Nat) (k0 : Nat) (h_0 : tk_sh k0 = tk_pins) (k1 : Nat) (h_1 : tk_sh k1 = tk_pins) (σ : tk_S) (Q : tk_S → Prop) (h : g_X2_keepOnly d 2 [(0, aN k0), (1, aN k1), (2, aI 0)] σ Q) : g_X2_keepOnly d 0 [(0, aN k0), (1, aN k1)] σ Q := by
  intro p l e s m args below meth c D cy ad base H locs ls C w hl
  obtain ⟨hx, hb, hml, hown, hts, hr, hlk⟩ := id C
  have hl : lv_has ls 3 [(0, .ref (ad k0)), (1, .ref (ad k1))] := hl
  refine lv_iconst (v := 0) hx hb dX2_keepOnly_0 (by decide) ?_
  refine lv_istore_n (lv' := [(2, .int 0), (0, .ref (ad k0)), (1, .ref (ad k1))]) hx hb dX2_keepOnly_1 rfl hl (by decide) rfl (fun ls hl => ?_)
  exact h _ _ _ _ _ _ _ _ _ _ _ _ _ _ _ _ C w (lv_sub hl [1, 2, 0] rfl)
theorem e_X2_keepOnly (d : Nat) (k0 : Nat) (k1 : Nat) {σ : tk_S} {Q : tk_S → Prop} (h : g_X2_keepOnly d 0 [(0, aN k0), (1, aN k1)] σ Q) : p_X2_keepOnly d [aN k0, aN k1] σ Q := tk_entry (by decide) rfl (fun _ => Nat.le_of_ble_eq_true rfl) (fun _ => rfl) h
abbrev g_X2_raise (d pc : Nat) (vals : List (Nat × tk_V)) (σ : tk_S) (Q : tk_S → Prop) : Prop := tk_G RX2 cX2_raise 3 none d pc vals σ (tk_v Q)
set_option maxHeartbeats 4000000 in
set_option maxRecDepth 100000 in
theorem b_X2_raise_0 (d : Nat) (k0 : Nat) (h_0 : tk_sh k0 = tk_pins) (x1 : Int32) (x2 : Int32) (σ : tk_S) (Q : tk_S → Prop) (h : p_X7_isPin d [aI x1, aI x2] σ (fun y3 σ2 => (y3 = 0 → Q σ2) ∧ (¬ y3 = 0 → vp_in x2 24 ∧ (vp_in x2 24 ∧ (Q (tk_up σ2 (k0 + 1) (Int32.toNatClampNeg x2) ((σ2.1 (k0 + 1) (Int32.toNatClampNeg x2)) ||| ((1 : Int32) <<< (x1 &&& 31))))))))) : g_X2_raise (d + 1) 0 [(0, aN k0), (1, aI x1), (2, aI x2)] σ Q := by
  intro p l e s m args below meth c D cy ad base H locs ls C w hl
  obtain ⟨hx, hb, hml, hown, hts, hr, hlk⟩ := id C
  have hl : lv_has ls 3 [(0, .ref (ad k0)), (1, .int x1), (2, .int x2)] := hl
  refine lv_iload_n hx hb dX2_raise_0 rfl (lv_at hl 1 rfl) ?_
  refine lv_iload_n hx hb dX2_raise_1 rfl (lv_at hl 2 rfl) ?_
  refine tk_cSN C w (as := [aI x1, aI x2]) (rest := []) mw_129 mw_2 (List.mem_of_getElem? (i := 8) rfl) mw_128 hd_X7_isPin (by decide) hl.1 (Nat.le_of_ble_eq_true rfl) rfl dX2_raise_2 h (fun r1 σ2 H locs hq w => ?_)
  obtain ⟨y3, rfl, h⟩ := hq
  refine W.eq (g2 := F0 m 5 ls [.int y3]) rfl ?_
  refine lv_if_eq (tgt := 20) hx hb dX2_raise_5 (by decide) (fun c4 => ?_) (fun c4 => ?_)
  · have h := h.1 c4
    exact tk_retv C w dX2_raise_20 h
  · have h := h.2 c4
    refine lv_aload_n hx hb dX2_raise_8 rfl (lv_at hl 0 rfl) ?_
    refine tk_get (k := k0) (v := .ref (ad (k0 + 1))) hx hb hts hown w h_0 rfl inlX2 0 (by decide) mw_52 rfl dX2_raise_9 ?_
    refine lv_iload_n hx hb dX2_raise_12 rfl (lv_at hl 2 rfl) ?_
    refine lv_dup2_11 hx hb dX2_raise_13 rfl rfl ?_
    obtain ⟨hi5, h⟩ := h
    refine tk_iald (k := k0 + 1) hx hb w (tk_p1 h_0) hi5 dX2_raise_14 ?_
    refine lv_iconst (v := 1) hx hb dX2_raise_15 (by decide) ?_
    refine lv_iload_n hx hb dX2_raise_16 rfl (lv_at hl 1 rfl) ?_
    refine lv_ishl hx hb dX2_raise_17 ?_
    refine lv_ior hx hb dX2_raise_18 ?_
    obtain ⟨hi6, h⟩ := h
    refine tk_iast (k := k0 + 1) hx hb w (tk_p1 h_0) hi6 dX2_raise_19 (fun H locs w => ?_)
    exact tk_retv C w dX2_raise_20 h
theorem e_X2_raise (d : Nat) (k0 : Nat) (x1 : Int32) (x2 : Int32) {σ : tk_S} {Q : tk_S → Prop} (h : g_X2_raise d 0 [(0, aN k0), (1, aI x1), (2, aI x2)] σ Q) : p_X2_raise d [aN k0, aI x1, aI x2] σ Q := tk_entry (by decide) rfl (fun _ => Nat.le_of_ble_eq_true rfl) (fun _ => rfl) h
abbrev g_X2_holds (d pc : Nat) (vals : List (Nat × tk_V)) (σ : tk_S) (Q : Int32 → tk_S → Prop) : Prop := tk_G RX2 cX2_holds 3 (some .boolean) d pc vals σ (tk_i Q)
set_option maxHeartbeats 4000000 in
set_option maxRecDepth 100000 in
theorem b_X2_holds_0 (d : Nat) (k0 : Nat) (h_0 : tk_sh k0 = tk_pins) (x1 : Int32) (x2 : Int32) (σ : tk_S) (Q : Int32 → tk_S → Prop) (h : p_X7_isPin d [aI x1, aI x2] σ (fun y3 σ2 => (y3 = 0 → Q 0 σ2) ∧ (¬ y3 = 0 → vp_in x2 24 ∧ (p_X7_has d [aI (σ2.1 (k0 + 1) (Int32.toNatClampNeg x2)), aI x1] σ2 (fun y8 σ7 => (y8 = 0 → Q 0 σ7) ∧ (¬ y8 = 0 → Q 1 σ7)))))) : g_X2_holds (d + 1) 0 [(0, aN k0), (1, aI x1), (2, aI x2)] σ Q := by
  intro p l e s m args below meth c D cy ad base H locs ls C w hl
  obtain ⟨hx, hb, hml, hown, hts, hr, hlk⟩ := id C
  have hl : lv_has ls 3 [(0, .ref (ad k0)), (1, .int x1), (2, .int x2)] := hl
  refine lv_iload_n hx hb dX2_holds_0 rfl (lv_at hl 1 rfl) ?_
  refine lv_iload_n hx hb dX2_holds_1 rfl (lv_at hl 2 rfl) ?_
  refine tk_cSN C w (as := [aI x1, aI x2]) (rest := []) mw_129 mw_2 (List.mem_of_getElem? (i := 8) rfl) mw_128 hd_X7_isPin (by decide) hl.1 (Nat.le_of_ble_eq_true rfl) rfl dX2_holds_2 h (fun r1 σ2 H locs hq w => ?_)
  obtain ⟨y3, rfl, h⟩ := hq
  refine W.eq (g2 := F0 m 5 ls [.int y3]) rfl ?_
  refine lv_if_eq (tgt := 25) hx hb dX2_holds_5 (by decide) (fun c4 => ?_) (fun c4 => ?_)
  · have h := h.1 c4
    refine lv_iconst (v := 0) hx hb dX2_holds_25 (by decide) ?_
    exact tk_retz C w dX2_holds_26 rfl h
  · have h := h.2 c4
    refine lv_aload_n hx hb dX2_holds_8 rfl (lv_at hl 0 rfl) ?_
    refine tk_get (k := k0) (v := .ref (ad (k0 + 1))) hx hb hts hown w h_0 rfl inlX2 0 (by decide) mw_52 rfl dX2_holds_9 ?_
    refine lv_iload_n hx hb dX2_holds_12 rfl (lv_at hl 2 rfl) ?_
    obtain ⟨hi5, h⟩ := h
    refine tk_iald (k := k0 + 1) hx hb w (tk_p1 h_0) hi5 dX2_holds_13 ?_
    refine lv_iload_n hx hb dX2_holds_14 rfl (lv_at hl 1 rfl) ?_
    refine tk_cSN C w (as := [aI (σ2.1 (k0 + 1) (Int32.toNatClampNeg x2)), aI x1]) (rest := []) mw_216 mw_2 (List.mem_of_getElem? (i := 9) rfl) mw_215 hd_X7_has (by decide) hl.1 (Nat.le_of_ble_eq_true rfl) rfl dX2_holds_15 h (fun r6 σ7 H locs hq w => ?_)
    obtain ⟨y8, rfl, h⟩ := hq
    refine W.eq (g2 := F0 m 18 ls [.int y8]) rfl ?_
    refine lv_if_eq (tgt := 25) hx hb dX2_holds_18 (by decide) (fun c9 => ?_) (fun c9 => ?_)
    · have h := h.1 c9
      refine lv_iconst (v := 0) hx hb dX2_holds_25 (by decide) ?_
      exact tk_retz C w dX2_holds_26 rfl h
    · have h := h.2 c9
      refine lv_iconst (v := 1) hx hb dX2_holds_21 (by decide) ?_
      refine lv_goto (tgt := 26) hx hb dX2_holds_22 (by decide) ?_
      exact tk_retz C w dX2_holds_26 rfl h
theorem e_X2_holds (d : Nat) (k0 : Nat) (x1 : Int32) (x2 : Int32) {σ : tk_S} {Q : Int32 → tk_S → Prop} (h : g_X2_holds d 0 [(0, aN k0), (1, aI x1), (2, aI x2)] σ Q) : p_X2_holds d [aN k0, aI x1, aI x2] σ Q := tk_entry (by decide) rfl (fun _ => Nat.le_of_ble_eq_true rfl) (fun _ => rfl) h
abbrev g_X2_size (d pc : Nat) (vals : List (Nat × tk_V)) (σ : tk_S) (Q : Int32 → tk_S → Prop) : Prop := tk_G RX2 cX2_size 3 (some .int) d pc vals σ (tk_i Q)
set_option maxHeartbeats 4000000 in
set_option maxRecDepth 100000 in
theorem b_X2_size_4 (d : Nat) (k0 : Nat) (h_0 : tk_sh k0 = tk_pins) (x1 : Int32) (x2 : Int32) (σ : tk_S) (Q : Int32 → tk_S → Prop) (h : (24 ≤ x2 → Q x1 σ) ∧ (¬ 24 ≤ x2 → vp_in x2 24 ∧ (p_J6_bitCount_0f7a4 d [aI (σ.1 (k0 + 1) (Int32.toNatClampNeg x2))] σ (fun y5 σ4 => ∀ z6 : Int32, z6 = x1 + y5 → (g_X2_size (d + 1) 4 [(0, aN k0), (1, aI z6), (2, aI (x2 + 1))] σ4 Q))))) : g_X2_size (d + 1) 4 [(0, aN k0), (1, aI x1), (2, aI x2)] σ Q := by
  intro p l e s m args below meth c D cy ad base H locs ls C w hl
  obtain ⟨hx, hb, hml, hown, hts, hr, hlk⟩ := id C
  have hl : lv_has ls 3 [(0, .ref (ad k0)), (1, .int x1), (2, .int x2)] := hl
  refine lv_iload_n hx hb dX2_size_4 rfl (lv_at hl 2 rfl) ?_
  refine lv_bipush (v := 24) hx hb dX2_size_5 (by decide) ?_
  refine lv_icmp_ge (tgt := 28) hx hb dX2_size_7 (by decide) (fun c1 => ?_) (fun c1 => ?_)
  · have h := h.1 c1
    refine lv_iload_n hx hb dX2_size_28 rfl (lv_at hl 1 rfl) ?_
    exact tk_reti C w dX2_size_29 h
  · have h := h.2 c1
    refine lv_iload_n hx hb dX2_size_10 rfl (lv_at hl 1 rfl) ?_
    refine lv_aload_n hx hb dX2_size_11 rfl (lv_at hl 0 rfl) ?_
    refine tk_get (k := k0) (v := .ref (ad (k0 + 1))) hx hb hts hown w h_0 rfl inlX2 0 (by decide) mw_52 rfl dX2_size_12 ?_
    refine lv_iload_n hx hb dX2_size_15 rfl (lv_at hl 2 rfl) ?_
    obtain ⟨hi2, h⟩ := h
    refine tk_iald (k := k0 + 1) hx hb w (tk_p1 h_0) hi2 dX2_size_16 ?_
    refine tk_cS C w (as := [aI (σ.1 (k0 + 1) (Int32.toNatClampNeg x2))]) (rest := [.int x1]) mw_361 mw_360 mw_358 mw_359 hd_J6_bitCount_0f7a4 (by decide) hl.1 (Nat.le_of_ble_eq_true rfl) rfl dX2_size_17 h (fun r3 σ4 H locs hq w => ?_)
    obtain ⟨y5, rfl, h⟩ := hq
    refine W.eq (g2 := F0 m 20 ls [.int y5, .int x1]) rfl ?_
    refine lv_iadd hx hb dX2_size_20 ?_
    refine lv_topi (fun z6 e_z6 => ?_)
    have h := h z6 e_z6
    refine lv_istore_n (lv' := [(1, .int z6), (0, .ref (ad k0)), (2, .int x2)]) hx hb dX2_size_21 rfl hl (by decide) rfl (fun ls hl => ?_)
    refine lv_iinc (v := x2 + 1) (lv' := [(2, .int (x2 + 1)), (1, .int z6), (0, .ref (ad k0))]) hx hb dX2_size_22 hl (k := 2) rfl rfl (by decide) rfl (fun ls hl => ?_)
    refine lv_goto (tgt := 4) hx hb dX2_size_25 (by decide) ?_
    exact h _ _ _ _ _ _ _ _ _ _ _ _ _ _ _ _ C w (lv_sub hl [2, 1, 0] rfl)
set_option maxHeartbeats 4000000 in
set_option maxRecDepth 100000 in
theorem b_X2_size_0 (d : Nat) (k0 : Nat) (h_0 : tk_sh k0 = tk_pins) (σ : tk_S) (Q : Int32 → tk_S → Prop) (h : g_X2_size (d + 1) 4 [(0, aN k0), (1, aI 0), (2, aI 0)] σ Q) : g_X2_size (d + 1) 0 [(0, aN k0)] σ Q := by
  intro p l e s m args below meth c D cy ad base H locs ls C w hl
  obtain ⟨hx, hb, hml, hown, hts, hr, hlk⟩ := id C
  have hl : lv_has ls 3 [(0, .ref (ad k0))] := hl
  refine lv_iconst (v := 0) hx hb dX2_size_0 (by decide) ?_
  refine lv_istore_n (lv' := [(1, .int 0), (0, .ref (ad k0))]) hx hb dX2_size_1 rfl hl (by decide) rfl (fun ls hl => ?_)
  refine lv_iconst (v := 0) hx hb dX2_size_2 (by decide) ?_
  refine lv_istore_n (lv' := [(2, .int 0), (1, .int 0), (0, .ref (ad k0))]) hx hb dX2_size_3 rfl hl (by decide) rfl (fun ls hl => ?_)
  exact h _ _ _ _ _ _ _ _ _ _ _ _ _ _ _ _ C w (lv_sub hl [2, 1, 0] rfl)
theorem e_X2_size (d : Nat) (k0 : Nat) {σ : tk_S} {Q : Int32 → tk_S → Prop} (h : g_X2_size d 0 [(0, aN k0)] σ Q) : p_X2_size d [aN k0] σ Q := tk_entry (by decide) rfl (fun _ => Nat.le_of_ble_eq_true rfl) (fun _ => rfl) h
abbrev g_X2_touch (d pc : Nat) (vals : List (Nat × tk_V)) (σ : tk_S) (Q : Int32 → tk_S → Prop) : Prop := tk_G RX2 cX2_touch 3 (some .boolean) d pc vals σ (tk_i Q)
set_option maxHeartbeats 4000000 in
set_option maxRecDepth 100000 in
theorem b_X2_touch_2 (d : Nat) (k0 : Nat) (h_0 : tk_sh k0 = tk_pins) (k1 : Nat) (h_1 : tk_sh k1 = tk_pins) (x2 : Int32) (σ : tk_S) (Q : Int32 → tk_S → Prop) (h : (24 ≤ x2 → Q 0 σ) ∧ (¬ 24 ≤ x2 → vp_in x2 24 ∧ (vp_in x2 24 ∧ ((((σ.1 (k0 + 1) (Int32.toNatClampNeg x2)) &&& (σ.1 (k1 + 1) (Int32.toNatClampNeg x2))) = 0 → g_X2_touch d 2 [(0, aN k0), (1, aN k1), (2, aI (x2 + 1))] σ Q) ∧ (¬ ((σ.1 (k0 + 1) (Int32.toNatClampNeg x2)) &&& (σ.1 (k1 + 1) (Int32.toNatClampNeg x2))) = 0 → Q 1 σ))))) : g_X2_touch d 2 [(0, aN k0), (1, aN k1), (2, aI x2)] σ Q := by
  intro p l e s m args below meth c D cy ad base H locs ls C w hl
  obtain ⟨hx, hb, hml, hown, hts, hr, hlk⟩ := id C
  have hl : lv_has ls 3 [(0, .ref (ad k0)), (1, .ref (ad k1)), (2, .int x2)] := hl
  refine lv_iload_n hx hb dX2_touch_2 rfl (lv_at hl 2 rfl) ?_
  refine lv_bipush (v := 24) hx hb dX2_touch_3 (by decide) ?_
  refine lv_icmp_ge (tgt := 32) hx hb dX2_touch_5 (by decide) (fun c1 => ?_) (fun c1 => ?_)
  · have h := h.1 c1
    refine lv_iconst (v := 0) hx hb dX2_touch_32 (by decide) ?_
    exact tk_retz C w dX2_touch_33 rfl h
  · have h := h.2 c1
    refine lv_aload_n hx hb dX2_touch_8 rfl (lv_at hl 0 rfl) ?_
    refine tk_get (k := k0) (v := .ref (ad (k0 + 1))) hx hb hts hown w h_0 rfl inlX2 0 (by decide) mw_52 rfl dX2_touch_9 ?_
    refine lv_iload_n hx hb dX2_touch_12 rfl (lv_at hl 2 rfl) ?_
    obtain ⟨hi2, h⟩ := h
    refine tk_iald (k := k0 + 1) hx hb w (tk_p1 h_0) hi2 dX2_touch_13 ?_
    refine lv_aload_n hx hb dX2_touch_14 rfl (lv_at hl 1 rfl) ?_
    refine tk_get (k := k1) (v := .ref (ad (k1 + 1))) hx hb hts hown w h_1 rfl inlX2 0 (by decide) mw_52 rfl dX2_touch_15 ?_
    refine lv_iload_n hx hb dX2_touch_18 rfl (lv_at hl 2 rfl) ?_
    obtain ⟨hi3, h⟩ := h
    refine tk_iald (k := k1 + 1) hx hb w (tk_p1 h_1) hi3 dX2_touch_19 ?_
    refine lv_iand hx hb dX2_touch_20 ?_
    refine lv_if_eq (tgt := 26) hx hb dX2_touch_21 (by decide) (fun c4 => ?_) (fun c4 => ?_)
    · have h := h.1 c4
      refine lv_iinc (v := x2 + 1) (lv' := [(2, .int (x2 + 1)), (0, .ref (ad k0)), (1, .ref (ad k1))]) hx hb dX2_touch_26 hl (k := 2) rfl rfl (by decide) rfl (fun ls hl => ?_)
      refine lv_goto (tgt := 2) hx hb dX2_touch_29 (by decide) ?_
      exact h _ _ _ _ _ _ _ _ _ _ _ _ _ _ _ _ C w (lv_sub hl [1, 2, 0] rfl)
    · have h := h.2 c4
      refine lv_iconst (v := 1) hx hb dX2_touch_24 (by decide) ?_
      exact tk_retz C w dX2_touch_25 rfl h
set_option maxHeartbeats 4000000 in
set_option maxRecDepth 100000 in
theorem b_X2_touch_0 (d : Nat) (k0 : Nat) (h_0 : tk_sh k0 = tk_pins) (k1 : Nat) (h_1 : tk_sh k1 = tk_pins) (σ : tk_S) (Q : Int32 → tk_S → Prop) (h : g_X2_touch d 2 [(0, aN k0), (1, aN k1), (2, aI 0)] σ Q) : g_X2_touch d 0 [(0, aN k0), (1, aN k1)] σ Q := by
  intro p l e s m args below meth c D cy ad base H locs ls C w hl
  obtain ⟨hx, hb, hml, hown, hts, hr, hlk⟩ := id C
  have hl : lv_has ls 3 [(0, .ref (ad k0)), (1, .ref (ad k1))] := hl
  refine lv_iconst (v := 0) hx hb dX2_touch_0 (by decide) ?_
  refine lv_istore_n (lv' := [(2, .int 0), (0, .ref (ad k0)), (1, .ref (ad k1))]) hx hb dX2_touch_1 rfl hl (by decide) rfl (fun ls hl => ?_)
  exact h _ _ _ _ _ _ _ _ _ _ _ _ _ _ _ _ C w (lv_sub hl [1, 2, 0] rfl)
theorem e_X2_touch (d : Nat) (k0 : Nat) (k1 : Nat) {σ : tk_S} {Q : Int32 → tk_S → Prop} (h : g_X2_touch d 0 [(0, aN k0), (1, aN k1)] σ Q) : p_X2_touch d [aN k0, aN k1] σ Q := tk_entry (by decide) rfl (fun _ => Nat.le_of_ble_eq_true rfl) (fun _ => rfl) h
abbrev g_X2_swell (d pc : Nat) (vals : List (Nat × tk_V)) (σ : tk_S) (Q : tk_S → Prop) : Prop := tk_G RX2 cX2_swell 5 none d pc vals σ (tk_v Q)
set_option maxHeartbeats 4000000 in
set_option maxRecDepth 100000 in
theorem b_X2_swell_45 (d : Nat) (k0 : Nat) (h_0 : tk_sh k0 = tk_pins) (x1 : Int32) (x2 : Int32) (x3 : Int32) (x4 : Int32) (σ : tk_S) (Q : tk_S → Prop) (h : vp_in x3 24 ∧ (g_X2_swell (d + 1) 14 [(0, aN k0), (1, aI x2), (2, aI x4), (3, aI (x3 + 1))] (tk_up σ (k0 + 1) (Int32.toNatClampNeg x3) ((x1 ||| x2) ||| x4)) Q)) : g_X2_swell (d + 1) 45 [(0, aN k0), (1, aI x1), (2, aI x2), (3, aI x3), (4, aI x4)] σ Q := by
  intro p l e s m args below meth c D cy ad base H locs ls C w hl
  obtain ⟨hx, hb, hml, hown, hts, hr, hlk⟩ := id C
  have hl : lv_has ls 5 [(0, .ref (ad k0)), (1, .int x1), (2, .int x2), (3, .int x3), (4, .int x4)] := hl
  refine lv_aload_n hx hb dX2_swell_45 rfl (lv_at hl 0 rfl) ?_
  refine tk_get (k := k0) (v := .ref (ad (k0 + 1))) hx hb hts hown w h_0 rfl inlX2 0 (by decide) mw_52 rfl dX2_swell_46 ?_
  refine lv_iload_n hx hb dX2_swell_49 rfl (lv_at hl 3 rfl) ?_
  refine lv_iload_n hx hb dX2_swell_50 rfl (lv_at hl 1 rfl) ?_
  refine lv_iload_n hx hb dX2_swell_51 rfl (lv_at hl 2 rfl) ?_
  refine lv_ior hx hb dX2_swell_52 ?_
  refine lv_iload hx hb dX2_swell_53 (lv_at hl 4 rfl) ?_
  refine lv_ior hx hb dX2_swell_55 ?_
  obtain ⟨hi1, h⟩ := h
  refine tk_iast (k := k0 + 1) hx hb w (tk_p1 h_0) hi1 dX2_swell_56 (fun H locs w => ?_)
  refine lv_iload_n hx hb dX2_swell_57 rfl (lv_at hl 2 rfl) ?_
  refine lv_istore_n (lv' := [(1, .int x2), (0, .ref (ad k0)), (2, .int x2), (3, .int x3), (4, .int x4)]) hx hb dX2_swell_58 rfl hl (by decide) rfl (fun ls hl => ?_)
  refine lv_iload hx hb dX2_swell_59 (lv_at hl 4 rfl) ?_
  refine lv_istore_n (lv' := [(2, .int x4), (1, .int x2), (0, .ref (ad k0)), (3, .int x3), (4, .int x4)]) hx hb dX2_swell_61 rfl hl (by decide) rfl (fun ls hl => ?_)
  refine lv_iinc (v := x3 + 1) (lv' := [(3, .int (x3 + 1)), (2, .int x4), (1, .int x2), (0, .ref (ad k0)), (4, .int x4)]) hx hb dX2_swell_62 hl (k := 3) rfl rfl (by decide) rfl (fun ls hl => ?_)
  refine lv_goto (tgt := 14) hx hb dX2_swell_65 (by decide) ?_
  exact h _ _ _ _ _ _ _ _ _ _ _ _ _ _ _ _ C w (lv_sub hl [3, 2, 1, 0] rfl)
set_option maxHeartbeats 4000000 in
set_option maxRecDepth 100000 in
theorem b_X2_swell_14 (d : Nat) (k0 : Nat) (h_0 : tk_sh k0 = tk_pins) (x1 : Int32) (x2 : Int32) (x3 : Int32) (σ : tk_S) (Q : tk_S → Prop) (h : (24 ≤ x3 → Q σ) ∧ (¬ 24 ≤ x3 → (24 ≤ (x3 + 1) → g_X2_swell (d + 1) 45 [(0, aN k0), (1, aI x1), (2, aI x2), (3, aI x3), (4, aI 0)] σ Q) ∧ (¬ 24 ≤ (x3 + 1) → vp_in (x3 + 1) 24 ∧ (p_X2_widened d [aI (σ.1 (k0 + 1) (Int32.toNatClampNeg (x3 + 1)))] σ (fun y6 σ5 => g_X2_swell (d + 1) 45 [(0, aN k0), (1, aI x1), (2, aI x2), (3, aI x3), (4, aI y6)] σ5 Q))))) : g_X2_swell (d + 1) 14 [(0, aN k0), (1, aI x1), (2, aI x2), (3, aI x3)] σ Q := by
  intro p l e s m args below meth c D cy ad base H locs ls C w hl
  obtain ⟨hx, hb, hml, hown, hts, hr, hlk⟩ := id C
  have hl : lv_has ls 5 [(0, .ref (ad k0)), (1, .int x1), (2, .int x2), (3, .int x3)] := hl
  refine lv_iload_n hx hb dX2_swell_14 rfl (lv_at hl 3 rfl) ?_
  refine lv_bipush (v := 24) hx hb dX2_swell_15 (by decide) ?_
  refine lv_icmp_ge (tgt := 68) hx hb dX2_swell_17 (by decide) (fun c1 => ?_) (fun c1 => ?_)
  · have h := h.1 c1
    exact tk_retv C w dX2_swell_68 h
  · have h := h.2 c1
    refine lv_iload_n hx hb dX2_swell_20 rfl (lv_at hl 3 rfl) ?_
    refine lv_iconst (v := 1) hx hb dX2_swell_21 (by decide) ?_
    refine lv_iadd hx hb dX2_swell_22 ?_
    refine lv_bipush (v := 24) hx hb dX2_swell_23 (by decide) ?_
    refine lv_icmp_ge (tgt := 42) hx hb dX2_swell_25 (by decide) (fun c2 => ?_) (fun c2 => ?_)
    · have h := h.1 c2
      refine lv_iconst (v := 0) hx hb dX2_swell_42 (by decide) ?_
      refine lv_istore (lv' := [(4, .int 0), (0, .ref (ad k0)), (1, .int x1), (2, .int x2), (3, .int x3)]) hx hb dX2_swell_43 hl (by decide) rfl (fun ls hl => ?_)
      exact h _ _ _ _ _ _ _ _ _ _ _ _ _ _ _ _ C w (lv_sub hl [1, 2, 3, 4, 0] rfl)
    · have h := h.2 c2
      refine lv_aload_n hx hb dX2_swell_28 rfl (lv_at hl 0 rfl) ?_
      refine tk_get (k := k0) (v := .ref (ad (k0 + 1))) hx hb hts hown w h_0 rfl inlX2 0 (by decide) mw_52 rfl dX2_swell_29 ?_
      refine lv_iload_n hx hb dX2_swell_32 rfl (lv_at hl 3 rfl) ?_
      refine lv_iconst (v := 1) hx hb dX2_swell_33 (by decide) ?_
      refine lv_iadd hx hb dX2_swell_34 ?_
      obtain ⟨hi3, h⟩ := h
      refine tk_iald (k := k0 + 1) hx hb w (tk_p1 h_0) hi3 dX2_swell_35 ?_
      refine tk_cS C w (as := [aI (σ.1 (k0 + 1) (Int32.toNatClampNeg (x3 + 1)))]) (rest := []) mw_227 mw_23 mw_225 mw_226 hd_X2_widened (by decide) hl.1 (Nat.le_of_ble_eq_true rfl) rfl dX2_swell_36 h (fun r4 σ5 H locs hq w => ?_)
      obtain ⟨y6, rfl, h⟩ := hq
      refine W.eq (g2 := F0 m 39 ls [.int y6]) rfl ?_
      refine lv_goto (tgt := 43) hx hb dX2_swell_39 (by decide) ?_
      refine lv_istore (lv' := [(4, .int y6), (0, .ref (ad k0)), (1, .int x1), (2, .int x2), (3, .int x3)]) hx hb dX2_swell_43 hl (by decide) rfl (fun ls hl => ?_)
      exact h _ _ _ _ _ _ _ _ _ _ _ _ _ _ _ _ C w (lv_sub hl [1, 2, 3, 4, 0] rfl)
set_option maxHeartbeats 4000000 in
set_option maxRecDepth 100000 in
theorem b_X2_swell_0 (d : Nat) (k0 : Nat) (h_0 : tk_sh k0 = tk_pins) (σ : tk_S) (Q : tk_S → Prop) (h : p_X2_widened d [aI (σ.1 (k0 + 1) (Int32.toNatClampNeg 0))] σ (fun y3 σ2 => g_X2_swell (d + 1) 14 [(0, aN k0), (1, aI 0), (2, aI y3), (3, aI 0)] σ2 Q)) : g_X2_swell (d + 1) 0 [(0, aN k0)] σ Q := by
  intro p l e s m args below meth c D cy ad base H locs ls C w hl
  obtain ⟨hx, hb, hml, hown, hts, hr, hlk⟩ := id C
  have hl : lv_has ls 5 [(0, .ref (ad k0))] := hl
  refine lv_iconst (v := 0) hx hb dX2_swell_0 (by decide) ?_
  refine lv_istore_n (lv' := [(1, .int 0), (0, .ref (ad k0))]) hx hb dX2_swell_1 rfl hl (by decide) rfl (fun ls hl => ?_)
  refine lv_aload_n hx hb dX2_swell_2 rfl (lv_at hl 1 rfl) ?_
  refine tk_get (k := k0) (v := .ref (ad (k0 + 1))) hx hb hts hown w h_0 rfl inlX2 0 (by decide) mw_52 rfl dX2_swell_3 ?_
  refine lv_iconst (v := 0) hx hb dX2_swell_6 (by decide) ?_
  refine tk_iald (k := k0 + 1) hx hb w (tk_p1 h_0) (by unfold vp_in; decide) dX2_swell_7 ?_
  refine tk_cS C w (as := [aI (σ.1 (k0 + 1) (Int32.toNatClampNeg 0))]) (rest := []) mw_227 mw_23 mw_225 mw_226 hd_X2_widened (by decide) hl.1 (Nat.le_of_ble_eq_true rfl) rfl dX2_swell_8 h (fun r1 σ2 H locs hq w => ?_)
  obtain ⟨y3, rfl, h⟩ := hq
  refine W.eq (g2 := F0 m 11 ls [.int y3]) rfl ?_
  refine lv_istore_n (lv' := [(2, .int y3), (1, .int 0), (0, .ref (ad k0))]) hx hb dX2_swell_11 rfl hl (by decide) rfl (fun ls hl => ?_)
  refine lv_iconst (v := 0) hx hb dX2_swell_12 (by decide) ?_
  refine lv_istore_n (lv' := [(3, .int 0), (2, .int y3), (1, .int 0), (0, .ref (ad k0))]) hx hb dX2_swell_13 rfl hl (by decide) rfl (fun ls hl => ?_)
  exact h _ _ _ _ _ _ _ _ _ _ _ _ _ _ _ _ C w (lv_sub hl [3, 2, 1, 0] rfl)
theorem e_X2_swell (d : Nat) (k0 : Nat) {σ : tk_S} {Q : tk_S → Prop} (h : g_X2_swell d 0 [(0, aN k0)] σ Q) : p_X2_swell d [aN k0] σ Q := tk_entry (by decide) rfl (fun _ => Nat.le_of_ble_eq_true rfl) (fun _ => rfl) h
abbrev g_X2_widened (d pc : Nat) (vals : List (Nat × tk_V)) (σ : tk_S) (Q : Int32 → tk_S → Prop) : Prop := tk_G RX2 cX2_widened 1 (some .int) d pc vals σ (tk_i Q)
set_option maxHeartbeats 4000000 in
set_option maxRecDepth 100000 in
theorem b_X2_widened_0 (d : Nat) (x0 : Int32) (σ : tk_S) (Q : Int32 → tk_S → Prop) (h : Q (((x0 ||| (x0 <<< ((1 : Int32) &&& 31))) ||| (x0 >>> ((1 : Int32) &&& 31))) &&& 16777215) σ) : g_X2_widened d 0 [(0, aI x0)] σ Q := by
  intro p l e s m args below meth c D cy ad base H locs ls C w hl
  obtain ⟨hx, hb, hml, hown, hts, hr, hlk⟩ := id C
  have hl : lv_has ls 1 [(0, .int x0)] := hl
  refine lv_iload_n hx hb dX2_widened_0 rfl (lv_at hl 0 rfl) ?_
  refine lv_iload_n hx hb dX2_widened_1 rfl (lv_at hl 0 rfl) ?_
  refine lv_iconst (v := 1) hx hb dX2_widened_2 (by decide) ?_
  refine lv_ishl hx hb dX2_widened_3 ?_
  refine lv_ior hx hb dX2_widened_4 ?_
  refine lv_iload_n hx hb dX2_widened_5 rfl (lv_at hl 0 rfl) ?_
  refine lv_iconst (v := 1) hx hb dX2_widened_6 (by decide) ?_
  refine lv_ishr hx hb dX2_widened_7 ?_
  refine lv_ior hx hb dX2_widened_8 ?_
  refine lv_ldc (v := 16777215) hx hb hown (hts _ mw_228) dX2_widened_9 ?_
  refine lv_iand hx hb dX2_widened_11 ?_
  exact tk_reti C w dX2_widened_12 h
theorem e_X2_widened (d : Nat) (x0 : Int32) {σ : tk_S} {Q : Int32 → tk_S → Prop} (h : g_X2_widened d 0 [(0, aI x0)] σ Q) : p_X2_widened d [aI x0] σ Q := tk_entry (by decide) rfl (fun _ => Nat.le_of_ble_eq_true rfl) (fun _ => rfl) h
abbrev g_X2_countBeside (d pc : Nat) (vals : List (Nat × tk_V)) (σ : tk_S) (Q : Int32 → tk_S → Prop) : Prop := tk_G RX2 cX2_countBeside 6 (some .int) d pc vals σ (tk_i Q)
set_option maxHeartbeats 4000000 in
set_option maxRecDepth 100000 in
theorem b_X2_countBeside_19 (d : Nat) (k0 : Nat) (h_0 : tk_sh k0 = tk_pins) (x2 : Int32) (x3 : Int32) (x4 : Int32) (x5 : Int32) (σ : tk_S) (Q : Int32 → tk_S → Prop) (h : ((if 23 < (x2 + 1) then 23 else (x2 + 1)) < x5 → Q x4 σ) ∧ (¬ (if 23 < (x2 + 1) then 23 else (x2 + 1)) < x5 → vp_in x5 24 ∧ (p_J6_bitCount_0f7a4 d [aI ((σ.1 (k0 + 1) (Int32.toNatClampNeg x5)) &&& x3)] σ (fun y5 σ4 => ∀ z6 : Int32, z6 = x4 + y5 → (g_X2_countBeside (d + 1) 19 [(0, aN k0), (2, aI x2), (3, aI x3), (4, aI z6), (5, aI (x5 + 1))] σ4 Q))))) : g_X2_countBeside (d + 1) 19 [(0, aN k0), (2, aI x2), (3, aI x3), (4, aI x4), (5, aI x5)] σ Q := by
  intro p l e s m args below meth c D cy ad base H locs ls C w hl
  obtain ⟨hx, hb, hml, hown, hts, hr, hlk⟩ := id C
  have hl : lv_has ls 6 [(0, .ref (ad k0)), (2, .int x2), (3, .int x3), (4, .int x4), (5, .int x5)] := hl
  refine lv_iload hx hb dX2_countBeside_19 (lv_at hl 4 rfl) ?_
  refine lv_iload_n hx hb dX2_countBeside_21 rfl (lv_at hl 1 rfl) ?_
  refine lv_iconst (v := 1) hx hb dX2_countBeside_22 (by decide) ?_
  refine lv_iadd hx hb dX2_countBeside_23 ?_
  refine lv_bipush (v := 23) hx hb dX2_countBeside_24 (by decide) ?_
  refine va_mmin hx hb (by rw [hml]; exact hl.1.symm) hown (hts _ mw_712) (hts _ mw_704) (hts _ mw_187) (hts _ mw_705) (Nat.succ_le_succ (Nat.zero_le _)) (Nat.le_trans (m := 64) (Nat.le_of_ble_eq_true rfl) (by show 64 ≤ 64 * (d + 1); omega)) (Nat.le_refl _) (Nat.le_refl _) dX2_countBeside_26 ?_
  refine lv_icmp_gt (tgt := 55) hx hb dX2_countBeside_29 (by decide) (fun c1 => ?_) (fun c1 => ?_)
  · have h := h.1 c1
    refine lv_iload hx hb dX2_countBeside_55 (lv_at hl 3 rfl) ?_
    exact tk_reti C w dX2_countBeside_57 h
  · have h := h.2 c1
    refine lv_iload hx hb dX2_countBeside_32 (lv_at hl 3 rfl) ?_
    refine lv_aload_n hx hb dX2_countBeside_34 rfl (lv_at hl 0 rfl) ?_
    refine tk_get (k := k0) (v := .ref (ad (k0 + 1))) hx hb hts hown w h_0 rfl inlX2 0 (by decide) mw_52 rfl dX2_countBeside_35 ?_
    refine lv_iload hx hb dX2_countBeside_38 (lv_at hl 4 rfl) ?_
    obtain ⟨hi2, h⟩ := h
    refine tk_iald (k := k0 + 1) hx hb w (tk_p1 h_0) hi2 dX2_countBeside_40 ?_
    refine lv_iload_n hx hb dX2_countBeside_41 rfl (lv_at hl 2 rfl) ?_
    refine lv_iand hx hb dX2_countBeside_42 ?_
    refine tk_cS C w (as := [aI ((σ.1 (k0 + 1) (Int32.toNatClampNeg x5)) &&& x3)]) (rest := [.int x4]) mw_361 mw_360 mw_358 mw_359 hd_J6_bitCount_0f7a4 (by decide) hl.1 (Nat.le_of_ble_eq_true rfl) rfl dX2_countBeside_43 h (fun r3 σ4 H locs hq w => ?_)
    obtain ⟨y5, rfl, h⟩ := hq
    refine W.eq (g2 := F0 m 46 ls [.int y5, .int x4]) rfl ?_
    refine lv_iadd hx hb dX2_countBeside_46 ?_
    refine lv_topi (fun z6 e_z6 => ?_)
    have h := h z6 e_z6
    refine lv_istore (lv' := [(4, .int z6), (0, .ref (ad k0)), (2, .int x2), (3, .int x3), (5, .int x5)]) hx hb dX2_countBeside_47 hl (by decide) rfl (fun ls hl => ?_)
    refine lv_iinc (v := x5 + 1) (lv' := [(5, .int (x5 + 1)), (4, .int z6), (0, .ref (ad k0)), (2, .int x2), (3, .int x3)]) hx hb dX2_countBeside_49 hl (k := 4) rfl rfl (by decide) rfl (fun ls hl => ?_)
    refine lv_goto (tgt := 19) hx hb dX2_countBeside_52 (by decide) ?_
    exact h _ _ _ _ _ _ _ _ _ _ _ _ _ _ _ _ C w (lv_sub hl [2, 3, 4, 1, 0] rfl)
set_option maxHeartbeats 4000000 in
set_option maxRecDepth 100000 in
theorem b_X2_countBeside_0 (d : Nat) (k0 : Nat) (h_0 : tk_sh k0 = tk_pins) (x1 : Int32) (x2 : Int32) (σ : tk_S) (Q : Int32 → tk_S → Prop) (h : ∀ z1 : Int32, z1 = ((7 : Int32) <<< (x1 &&& 31)) >>> ((1 : Int32) &&& 31) → (∀ z2 : Int32, z2 = (if (x2 - 1) < 0 then 0 else (x2 - 1)) → (g_X2_countBeside (d + 1) 19 [(0, aN k0), (2, aI x2), (3, aI z1), (4, aI (-1)), (5, aI z2)] σ Q))) : g_X2_countBeside (d + 1) 0 [(0, aN k0), (1, aI x1), (2, aI x2)] σ Q := by
  intro p l e s m args below meth c D cy ad base H locs ls C w hl
  obtain ⟨hx, hb, hml, hown, hts, hr, hlk⟩ := id C
  have hl : lv_has ls 6 [(0, .ref (ad k0)), (1, .int x1), (2, .int x2)] := hl
  refine lv_bipush (v := 7) hx hb dX2_countBeside_0 (by decide) ?_
  refine lv_iload_n hx hb dX2_countBeside_2 rfl (lv_at hl 1 rfl) ?_
  refine lv_ishl hx hb dX2_countBeside_3 ?_
  refine lv_iconst (v := 1) hx hb dX2_countBeside_4 (by decide) ?_
  refine lv_ishr hx hb dX2_countBeside_5 ?_
  refine lv_topi (fun z1 e_z1 => ?_)
  have h := h z1 e_z1
  refine lv_istore_n (lv' := [(3, .int z1), (0, .ref (ad k0)), (1, .int x1), (2, .int x2)]) hx hb dX2_countBeside_6 rfl hl (by decide) rfl (fun ls hl => ?_)
  refine lv_iconst (v := (-1)) hx hb dX2_countBeside_7 (by decide) ?_
  refine lv_istore (lv' := [(4, .int (-1)), (3, .int z1), (0, .ref (ad k0)), (1, .int x1), (2, .int x2)]) hx hb dX2_countBeside_8 hl (by decide) rfl (fun ls hl => ?_)
  refine lv_iload_n hx hb dX2_countBeside_10 rfl (lv_at hl 4 rfl) ?_
  refine lv_iconst (v := 1) hx hb dX2_countBeside_11 (by decide) ?_
  refine lv_isub hx hb dX2_countBeside_12 ?_
  refine lv_iconst (v := 0) hx hb dX2_countBeside_13 (by decide) ?_
  refine va_mmax hx hb (by rw [hml]; exact hl.1.symm) hown (hts _ mw_711) (hts _ mw_190) (hts _ mw_187) (hts _ mw_191) (Nat.succ_le_succ (Nat.zero_le _)) (Nat.le_trans (m := 64) (Nat.le_of_ble_eq_true rfl) (by show 64 ≤ 64 * (d + 1); omega)) (Nat.le_refl _) (Nat.le_refl _) dX2_countBeside_14 ?_
  refine lv_topi (fun z2 e_z2 => ?_)
  have h := h z2 e_z2
  refine lv_istore (lv' := [(5, .int z2), (4, .int (-1)), (3, .int z1), (0, .ref (ad k0)), (1, .int x1), (2, .int x2)]) hx hb dX2_countBeside_17 hl (by decide) rfl (fun ls hl => ?_)
  exact h _ _ _ _ _ _ _ _ _ _ _ _ _ _ _ _ C w (lv_sub hl [3, 5, 2, 1, 0] rfl)
theorem e_X2_countBeside (d : Nat) (k0 : Nat) (x1 : Int32) (x2 : Int32) {σ : tk_S} {Q : Int32 → tk_S → Prop} (h : g_X2_countBeside d 0 [(0, aN k0), (1, aI x1), (2, aI x2)] σ Q) : p_X2_countBeside d [aN k0, aI x1, aI x2] σ Q := tk_entry (by decide) rfl (fun _ => Nat.le_of_ble_eq_true rfl) (fun _ => rfl) h
