abbrev g_X4_fewest (d pc : Nat) (vals : List (Nat × tk_V)) (σ : tk_S) (Q : Int32 → tk_S → Prop) : Prop := tk_G RX4 cX4_fewest 6 (some .int) d pc vals σ (tk_i Q)
set_option maxHeartbeats 4000000 in
set_option maxRecDepth 100000 in
theorem b_X4_fewest_48 (d : Nat) (k1 : Nat) (h_1 : tk_sh k1 = tk_shape) (x2 : Int32) (x3 : Int32) (x4 : Int32) (x5 : Int32) (σ : tk_S) (Q : Int32 → tk_S → Prop) (h : (x3 < x5 → g_X4_fewest (d + 1) 10 [(0, aN 20), (1, aN k1), (2, aI x2), (3, aI x3), (4, aI (x4 + (-1)))] σ Q) ∧ (¬ x3 < x5 → vp_in x5 8 ∧ (vp_in x4 8 ∧ (((σ.1 21 (Int32.toNatClampNeg x4)) ≤ ((σ.1 21 (Int32.toNatClampNeg x5)) + 1) → g_X4_fewest (d + 1) 48 [(0, aN 20), (1, aN k1), (2, aI x2), (3, aI x3), (4, aI x4), (5, aI (x5 + 1))] σ Q) ∧ (¬ (σ.1 21 (Int32.toNatClampNeg x4)) ≤ ((σ.1 21 (Int32.toNatClampNeg x5)) + 1) → p_X4_canStep d [aN k1, aI x4, aI x5, aI x2] σ (fun y7 σ6 => (y7 = 0 → g_X4_fewest (d + 1) 48 [(0, aN 20), (1, aN k1), (2, aI x2), (3, aI x3), (4, aI x4), (5, aI (x5 + 1))] σ6 Q) ∧ (¬ y7 = 0 → vp_in x5 8 ∧ (vp_in x4 8 ∧ (vp_in x4 8 ∧ (∀ σ12 : tk_S, σ12 = tk_up (tk_up σ6 21 (Int32.toNatClampNeg x4) ((σ6.1 21 (Int32.toNatClampNeg x5)) + 1)) 22 (Int32.toNatClampNeg x4) x5 → g_X4_fewest (d + 1) 48 [(0, aN 20), (1, aN k1), (2, aI x2), (3, aI x3), (4, aI x4), (5, aI (x5 + 1))] σ12 Q)))))))))) : g_X4_fewest (d + 1) 48 [(0, aN 20), (1, aN k1), (2, aI x2), (3, aI x3), (4, aI x4), (5, aI x5)] σ Q := by
  intro p l e s m args below meth c D cy ad base H locs ls C w hl
  obtain ⟨hx, hb, hml, hown, hts, hr, hlk⟩ := id C
  have hl : lv_has ls 6 [(0, .ref (ad 20)), (1, .ref (ad k1)), (2, .int x2), (3, .int x3), (4, .int x4), (5, .int x5)] := hl
  refine lv_iload hx hb dX4_fewest_48 (lv_at hl 5 rfl) ?_
  refine lv_iload_n hx hb dX4_fewest_50 rfl (lv_at hl 3 rfl) ?_
  refine lv_icmp_gt (tgt := 116) hx hb dX4_fewest_51 (by decide) (fun c1 => ?_) (fun c1 => ?_)
  · have h := h.1 c1
    refine lv_iinc (v := x4 + (-1)) (lv' := [(4, .int (x4 + (-1))), (0, .ref (ad 20)), (1, .ref (ad k1)), (2, .int x2), (3, .int x3), (5, .int x5)]) hx hb dX4_fewest_116 hl (k := 4) rfl rfl (by decide) rfl (fun ls hl => ?_)
    refine lv_goto (tgt := 10) hx hb dX4_fewest_119 (by decide) ?_
    exact h _ _ _ _ _ _ _ _ _ _ _ _ _ _ _ _ C w (lv_sub hl [1, 2, 3, 4, 0] rfl)
  · have h := h.2 c1
    refine lv_aload_n hx hb dX4_fewest_54 rfl (lv_at hl 0 rfl) ?_
    refine tk_get (k := 20) (v := .ref (ad 21)) hx hb hts hown w rfl rfl inlX4 0 (by decide) mw_56 rfl dX4_fewest_55 ?_
    refine lv_iload hx hb dX4_fewest_58 (lv_at hl 5 rfl) ?_
    obtain ⟨hi2, h⟩ := h
    refine tk_iald (k := 21) hx hb w rfl hi2 dX4_fewest_60 ?_
    refine lv_iconst (v := 1) hx hb dX4_fewest_61 (by decide) ?_
    refine lv_iadd hx hb dX4_fewest_62 ?_
    refine lv_aload_n hx hb dX4_fewest_63 rfl (lv_at hl 0 rfl) ?_
    refine tk_get (k := 20) (v := .ref (ad 21)) hx hb hts hown w rfl rfl inlX4 0 (by decide) mw_56 rfl dX4_fewest_64 ?_
    refine lv_iload hx hb dX4_fewest_67 (lv_at hl 4 rfl) ?_
    obtain ⟨hi3, h⟩ := h
    refine tk_iald (k := 21) hx hb w rfl hi3 dX4_fewest_69 ?_
    refine lv_icmp_ge (tgt := 110) hx hb dX4_fewest_70 (by decide) (fun c4 => ?_) (fun c4 => ?_)
    · have h := h.1 c4
      refine lv_iinc (v := x5 + 1) (lv' := [(5, .int (x5 + 1)), (0, .ref (ad 20)), (1, .ref (ad k1)), (2, .int x2), (3, .int x3), (4, .int x4)]) hx hb dX4_fewest_110 hl (k := 5) rfl rfl (by decide) rfl (fun ls hl => ?_)
      refine lv_goto (tgt := 48) hx hb dX4_fewest_113 (by decide) ?_
      exact h _ _ _ _ _ _ _ _ _ _ _ _ _ _ _ _ C w (lv_sub hl [1, 2, 3, 4, 5, 0] rfl)
    · have h := h.2 c4
      refine lv_aload_n hx hb dX4_fewest_73 rfl (lv_at hl 1 rfl) ?_
      refine lv_iload hx hb dX4_fewest_74 (lv_at hl 4 rfl) ?_
      refine lv_iload hx hb dX4_fewest_76 (lv_at hl 5 rfl) ?_
      refine lv_iload_n hx hb dX4_fewest_78 rfl (lv_at hl 2 rfl) ?_
      refine tk_cS C w (as := [aN k1, aI x4, aI x5, aI x2]) (rest := []) mw_416 mw_27 mw_414 mw_415 hd_X4_canStep (by decide) hl.1 (Nat.le_of_ble_eq_true rfl) rfl dX4_fewest_79 h (fun r5 σ6 H locs hq w => ?_)
      obtain ⟨y7, rfl, h⟩ := hq
      refine W.eq (g2 := F0 m 82 ls [.int y7]) rfl ?_
      refine lv_if_eq (tgt := 110) hx hb dX4_fewest_82 (by decide) (fun c8 => ?_) (fun c8 => ?_)
      · have h := h.1 c8
        refine lv_iinc (v := x5 + 1) (lv' := [(5, .int (x5 + 1)), (0, .ref (ad 20)), (1, .ref (ad k1)), (2, .int x2), (3, .int x3), (4, .int x4)]) hx hb dX4_fewest_110 hl (k := 5) rfl rfl (by decide) rfl (fun ls hl => ?_)
        refine lv_goto (tgt := 48) hx hb dX4_fewest_113 (by decide) ?_
        exact h _ _ _ _ _ _ _ _ _ _ _ _ _ _ _ _ C w (lv_sub hl [1, 2, 3, 4, 5, 0] rfl)
      · have h := h.2 c8
        refine lv_aload_n hx hb dX4_fewest_85 rfl (lv_at hl 0 rfl) ?_
        refine tk_get (k := 20) (v := .ref (ad 21)) hx hb hts hown w rfl rfl inlX4 0 (by decide) mw_56 rfl dX4_fewest_86 ?_
        refine lv_iload hx hb dX4_fewest_89 (lv_at hl 4 rfl) ?_
        refine lv_aload_n hx hb dX4_fewest_91 rfl (lv_at hl 0 rfl) ?_
        refine tk_get (k := 20) (v := .ref (ad 21)) hx hb hts hown w rfl rfl inlX4 0 (by decide) mw_56 rfl dX4_fewest_92 ?_
        refine lv_iload hx hb dX4_fewest_95 (lv_at hl 5 rfl) ?_
        obtain ⟨hi9, h⟩ := h
        refine tk_iald (k := 21) hx hb w rfl hi9 dX4_fewest_97 ?_
        refine lv_iconst (v := 1) hx hb dX4_fewest_98 (by decide) ?_
        refine lv_iadd hx hb dX4_fewest_99 ?_
        obtain ⟨hi10, h⟩ := h
        refine tk_iast (k := 21) hx hb w rfl hi10 dX4_fewest_100 (fun H locs w => ?_)
        refine lv_aload_n hx hb dX4_fewest_101 rfl (lv_at hl 0 rfl) ?_
        refine tk_get (k := 20) (v := .ref (ad 22)) hx hb hts hown w rfl rfl inlX4 1 (by decide) mw_57 rfl dX4_fewest_102 ?_
        refine lv_iload hx hb dX4_fewest_105 (lv_at hl 4 rfl) ?_
        refine lv_iload hx hb dX4_fewest_107 (lv_at hl 5 rfl) ?_
        obtain ⟨hi11, h⟩ := h
        refine tk_iast (k := 22) hx hb w rfl hi11 dX4_fewest_109 (fun H locs w => ?_)
        generalize e_σ12 : tk_up (tk_up σ6 21 (Int32.toNatClampNeg x4) ((σ6.1 21 (Int32.toNatClampNeg x5)) + 1)) 22 (Int32.toNatClampNeg x4) x5 = σ12 at w
        have h := h σ12 e_σ12.symm
        refine lv_iinc (v := x5 + 1) (lv' := [(5, .int (x5 + 1)), (0, .ref (ad 20)), (1, .ref (ad k1)), (2, .int x2), (3, .int x3), (4, .int x4)]) hx hb dX4_fewest_110 hl (k := 5) rfl rfl (by decide) rfl (fun ls hl => ?_)
        refine lv_goto (tgt := 48) hx hb dX4_fewest_113 (by decide) ?_
        exact h _ _ _ _ _ _ _ _ _ _ _ _ _ _ _ _ C w (lv_sub hl [1, 2, 3, 4, 5, 0] rfl)
set_option maxHeartbeats 4000000 in
set_option maxRecDepth 100000 in
theorem b_X4_fewest_10 (d : Nat) (k1 : Nat) (h_1 : tk_sh k1 = tk_shape) (x2 : Int32) (x3 : Int32) (x4 : Int32) (σ : tk_S) (Q : Int32 → tk_S → Prop) (h : (x4 < 0 → p_X4_walk d [aN 20, aI x3] σ (fun y4 σ3 => Q y4 σ3)) ∧ (¬ x4 < 0 → (¬ x4 = x3 → vp_in x4 8 ∧ (vp_in x4 8 ∧ (∀ σ8 : tk_S, σ8 = tk_up (tk_up σ 21 (Int32.toNatClampNeg x4) 9) 22 (Int32.toNatClampNeg x4) x3 → g_X4_fewest (d + 1) 48 [(0, aN 20), (1, aN k1), (2, aI x2), (3, aI x3), (4, aI x4), (5, aI (x4 + 1))] σ8 Q))) ∧ (x4 = x3 → vp_in x4 8 ∧ (vp_in x4 8 ∧ (∀ σ11 : tk_S, σ11 = tk_up (tk_up σ 21 (Int32.toNatClampNeg x4) 1) 22 (Int32.toNatClampNeg x4) x3 → g_X4_fewest (d + 1) 48 [(0, aN 20), (1, aN k1), (2, aI x2), (3, aI x3), (4, aI x4), (5, aI (x4 + 1))] σ11 Q))))) : g_X4_fewest (d + 1) 10 [(0, aN 20), (1, aN k1), (2, aI x2), (3, aI x3), (4, aI x4)] σ Q := by
  intro p l e s m args below meth c D cy ad base H locs ls C w hl
  obtain ⟨hx, hb, hml, hown, hts, hr, hlk⟩ := id C
  have hl : lv_has ls 6 [(0, .ref (ad 20)), (1, .ref (ad k1)), (2, .int x2), (3, .int x3), (4, .int x4)] := hl
  refine lv_iload hx hb dX4_fewest_10 (lv_at hl 4 rfl) ?_
  refine lv_if_lt (tgt := 122) hx hb dX4_fewest_12 (by decide) (fun c1 => ?_) (fun c1 => ?_)
  · have h := h.1 c1
    refine lv_aload_n hx hb dX4_fewest_122 rfl (lv_at hl 0 rfl) ?_
    refine lv_iload_n hx hb dX4_fewest_123 rfl (lv_at hl 3 rfl) ?_
    refine tk_cV C w (k := 20) rfl rfl (as := [aI x3]) (rest := []) mw_425 mw_27 mw_422 mw_423 mw_424 hd_X4_walk (by decide) hl.1 (Nat.le_of_ble_eq_true rfl) rfl dX4_fewest_124 h (fun r2 σ3 H locs hq w => ?_)
    obtain ⟨y4, rfl, h⟩ := hq
    refine W.eq (g2 := F0 m 127 ls [.int y4]) rfl ?_
    exact tk_reti C w dX4_fewest_127 h
  · have h := h.2 c1
    refine lv_aload_n hx hb dX4_fewest_15 rfl (lv_at hl 0 rfl) ?_
    refine tk_get (k := 20) (v := .ref (ad 21)) hx hb hts hown w rfl rfl inlX4 0 (by decide) mw_56 rfl dX4_fewest_16 ?_
    refine lv_iload hx hb dX4_fewest_19 (lv_at hl 4 rfl) ?_
    refine lv_iload hx hb dX4_fewest_21 (lv_at hl 4 rfl) ?_
    refine lv_iload_n hx hb dX4_fewest_23 rfl (lv_at hl 3 rfl) ?_
    refine lv_icmp_ne (tgt := 31) hx hb dX4_fewest_24 (by decide) (fun c5 => ?_) (fun c5 => ?_)
    · have h := h.1 c5
      refine lv_bipush (v := 9) hx hb dX4_fewest_31 (by decide) ?_
      obtain ⟨hi6, h⟩ := h
      refine tk_iast (k := 21) hx hb w rfl hi6 dX4_fewest_33 (fun H locs w => ?_)
      refine lv_aload_n hx hb dX4_fewest_34 rfl (lv_at hl 0 rfl) ?_
      refine tk_get (k := 20) (v := .ref (ad 22)) hx hb hts hown w rfl rfl inlX4 1 (by decide) mw_57 rfl dX4_fewest_35 ?_
      refine lv_iload hx hb dX4_fewest_38 (lv_at hl 4 rfl) ?_
      refine lv_iload_n hx hb dX4_fewest_40 rfl (lv_at hl 3 rfl) ?_
      obtain ⟨hi7, h⟩ := h
      refine tk_iast (k := 22) hx hb w rfl hi7 dX4_fewest_41 (fun H locs w => ?_)
      generalize e_σ8 : tk_up (tk_up σ 21 (Int32.toNatClampNeg x4) 9) 22 (Int32.toNatClampNeg x4) x3 = σ8 at w
      have h := h σ8 e_σ8.symm
      refine lv_iload hx hb dX4_fewest_42 (lv_at hl 4 rfl) ?_
      refine lv_iconst (v := 1) hx hb dX4_fewest_44 (by decide) ?_
      refine lv_iadd hx hb dX4_fewest_45 ?_
      refine lv_istore (lv' := [(5, .int (x4 + 1)), (0, .ref (ad 20)), (1, .ref (ad k1)), (2, .int x2), (3, .int x3), (4, .int x4)]) hx hb dX4_fewest_46 hl (by decide) rfl (fun ls hl => ?_)
      exact h _ _ _ _ _ _ _ _ _ _ _ _ _ _ _ _ C w (lv_sub hl [1, 2, 3, 4, 5, 0] rfl)
    · have h := h.2 c5
      refine lv_iconst (v := 1) hx hb dX4_fewest_27 (by decide) ?_
      refine lv_goto (tgt := 33) hx hb dX4_fewest_28 (by decide) ?_
      obtain ⟨hi9, h⟩ := h
      refine tk_iast (k := 21) hx hb w rfl hi9 dX4_fewest_33 (fun H locs w => ?_)
      refine lv_aload_n hx hb dX4_fewest_34 rfl (lv_at hl 0 rfl) ?_
      refine tk_get (k := 20) (v := .ref (ad 22)) hx hb hts hown w rfl rfl inlX4 1 (by decide) mw_57 rfl dX4_fewest_35 ?_
      refine lv_iload hx hb dX4_fewest_38 (lv_at hl 4 rfl) ?_
      refine lv_iload_n hx hb dX4_fewest_40 rfl (lv_at hl 3 rfl) ?_
      obtain ⟨hi10, h⟩ := h
      refine tk_iast (k := 22) hx hb w rfl hi10 dX4_fewest_41 (fun H locs w => ?_)
      generalize e_σ11 : tk_up (tk_up σ 21 (Int32.toNatClampNeg x4) 1) 22 (Int32.toNatClampNeg x4) x3 = σ11 at w
      have h := h σ11 e_σ11.symm
      refine lv_iload hx hb dX4_fewest_42 (lv_at hl 4 rfl) ?_
      refine lv_iconst (v := 1) hx hb dX4_fewest_44 (by decide) ?_
      refine lv_iadd hx hb dX4_fewest_45 ?_
      refine lv_istore (lv' := [(5, .int (x4 + 1)), (0, .ref (ad 20)), (1, .ref (ad k1)), (2, .int x2), (3, .int x3), (4, .int x4)]) hx hb dX4_fewest_46 hl (by decide) rfl (fun ls hl => ?_)
      exact h _ _ _ _ _ _ _ _ _ _ _ _ _ _ _ _ C w (lv_sub hl [1, 2, 3, 4, 5, 0] rfl)
set_option maxHeartbeats 4000000 in
set_option maxRecDepth 100000 in
theorem b_X4_fewest_0 (d : Nat) (k1 : Nat) (h_1 : tk_sh k1 = tk_shape) (x2 : Int32) (σ : tk_S) (Q : Int32 → tk_S → Prop) (h : ∀ z1 : Int32, z1 = (σ.1 k1 2) - 1 → (g_X4_fewest (d + 1) 10 [(0, aN 20), (1, aN k1), (2, aI x2), (3, aI z1), (4, aI z1)] σ Q)) : g_X4_fewest (d + 1) 0 [(0, aN 20), (1, aN k1), (2, aI x2)] σ Q := by
  intro p l e s m args below meth c D cy ad base H locs ls C w hl
  obtain ⟨hx, hb, hml, hown, hts, hr, hlk⟩ := id C
  have hl : lv_has ls 6 [(0, .ref (ad 20)), (1, .ref (ad k1)), (2, .int x2)] := hl
  refine lv_aload_n hx hb dX4_fewest_0 rfl (lv_at hl 1 rfl) ?_
  refine tk_get (k := k1) (v := .int (σ.1 k1 2)) hx hb hts hown w h_1 rfl inlX3 2 (by decide) mw_413 rfl dX4_fewest_1 ?_
  refine lv_iconst (v := 1) hx hb dX4_fewest_4 (by decide) ?_
  refine lv_isub hx hb dX4_fewest_5 ?_
  refine lv_topi (fun z1 e_z1 => ?_)
  have h := h z1 e_z1
  refine lv_istore_n (lv' := [(3, .int z1), (0, .ref (ad 20)), (1, .ref (ad k1)), (2, .int x2)]) hx hb dX4_fewest_6 rfl hl (by decide) rfl (fun ls hl => ?_)
  refine lv_iload_n hx hb dX4_fewest_7 rfl (lv_at hl 0 rfl) ?_
  refine lv_istore (lv' := [(4, .int z1), (3, .int z1), (0, .ref (ad 20)), (1, .ref (ad k1)), (2, .int x2)]) hx hb dX4_fewest_8 hl (by decide) rfl (fun ls hl => ?_)
  exact h _ _ _ _ _ _ _ _ _ _ _ _ _ _ _ _ C w (lv_sub hl [2, 3, 4, 1, 0] rfl)
theorem e_X4_fewest (d : Nat) (k1 : Nat) (x2 : Int32) {σ : tk_S} {Q : Int32 → tk_S → Prop} (h : g_X4_fewest d 0 [(0, aN 20), (1, aN k1), (2, aI x2)] σ Q) : p_X4_fewest d [aN 20, aN k1, aI x2] σ Q := tk_entry (by decide) rfl (fun _ => Nat.le_of_ble_eq_true rfl) (fun _ => rfl) h
abbrev g_X4_walk (d pc : Nat) (vals : List (Nat × tk_V)) (σ : tk_S) (Q : Int32 → tk_S → Prop) : Prop := tk_G RX4 cX4_walk 5 (some .int) d pc vals σ (tk_i Q)
set_option maxHeartbeats 4000000 in
set_option maxRecDepth 100000 in
theorem b_X4_walk_7 (d : Nat) (x1 : Int32) (x2 : Int32) (x3 : Int32) (x4 : Int32) (σ : tk_S) (Q : Int32 → tk_S → Prop) (h : (8 ≤ x4 → Q x2 σ) ∧ (¬ 8 ≤ x4 → (x1 ≤ x3 → Q x2 σ) ∧ (¬ x1 ≤ x3 → vp_in x3 8 ∧ (∀ z4 : Int32, z4 = σ.1 22 (Int32.toNatClampNeg x3) → (∀ z5 : Int32, z5 = x2 ||| ((1 : Int32) <<< (z4 &&& 31)) → (g_X4_walk d 7 [(0, aN 20), (1, aI x1), (2, aI z5), (3, aI z4), (4, aI (x4 + 1))] σ Q)))))) : g_X4_walk d 7 [(0, aN 20), (1, aI x1), (2, aI x2), (3, aI x3), (4, aI x4)] σ Q := by
  intro p l e s m args below meth c D cy ad base H locs ls C w hl
  obtain ⟨hx, hb, hml, hown, hts, hr, hlk⟩ := id C
  have hl : lv_has ls 5 [(0, .ref (ad 20)), (1, .int x1), (2, .int x2), (3, .int x3), (4, .int x4)] := hl
  refine lv_iload hx hb dX4_walk_7 (lv_at hl 4 rfl) ?_
  refine lv_bipush (v := 8) hx hb dX4_walk_9 (by decide) ?_
  refine lv_icmp_ge (tgt := 38) hx hb dX4_walk_11 (by decide) (fun c1 => ?_) (fun c1 => ?_)
  · have h := h.1 c1
    refine lv_iload_n hx hb dX4_walk_38 rfl (lv_at hl 2 rfl) ?_
    exact tk_reti C w dX4_walk_39 h
  · have h := h.2 c1
    refine lv_iload_n hx hb dX4_walk_14 rfl (lv_at hl 3 rfl) ?_
    refine lv_iload_n hx hb dX4_walk_15 rfl (lv_at hl 1 rfl) ?_
    refine lv_icmp_ge (tgt := 38) hx hb dX4_walk_16 (by decide) (fun c2 => ?_) (fun c2 => ?_)
    · have h := h.1 c2
      refine lv_iload_n hx hb dX4_walk_38 rfl (lv_at hl 2 rfl) ?_
      exact tk_reti C w dX4_walk_39 h
    · have h := h.2 c2
      refine lv_aload_n hx hb dX4_walk_19 rfl (lv_at hl 0 rfl) ?_
      refine tk_get (k := 20) (v := .ref (ad 22)) hx hb hts hown w rfl rfl inlX4 1 (by decide) mw_57 rfl dX4_walk_20 ?_
      refine lv_iload_n hx hb dX4_walk_23 rfl (lv_at hl 3 rfl) ?_
      obtain ⟨hi3, h⟩ := h
      refine tk_iald (k := 22) hx hb w rfl hi3 dX4_walk_24 ?_
      refine lv_topi (fun z4 e_z4 => ?_)
      have h := h z4 e_z4
      refine lv_istore_n (lv' := [(3, .int z4), (0, .ref (ad 20)), (1, .int x1), (2, .int x2), (4, .int x4)]) hx hb dX4_walk_25 rfl hl (by decide) rfl (fun ls hl => ?_)
      refine lv_iload_n hx hb dX4_walk_26 rfl (lv_at hl 3 rfl) ?_
      refine lv_iconst (v := 1) hx hb dX4_walk_27 (by decide) ?_
      refine lv_iload_n hx hb dX4_walk_28 rfl (lv_at hl 0 rfl) ?_
      refine lv_ishl hx hb dX4_walk_29 ?_
      refine lv_ior hx hb dX4_walk_30 ?_
      refine lv_topi (fun z5 e_z5 => ?_)
      have h := h z5 e_z5
      refine lv_istore_n (lv' := [(2, .int z5), (3, .int z4), (0, .ref (ad 20)), (1, .int x1), (4, .int x4)]) hx hb dX4_walk_31 rfl hl (by decide) rfl (fun ls hl => ?_)
      refine lv_iinc (v := x4 + 1) (lv' := [(4, .int (x4 + 1)), (2, .int z5), (3, .int z4), (0, .ref (ad 20)), (1, .int x1)]) hx hb dX4_walk_32 hl (k := 4) rfl rfl (by decide) rfl (fun ls hl => ?_)
      refine lv_goto (tgt := 7) hx hb dX4_walk_35 (by decide) ?_
      exact h _ _ _ _ _ _ _ _ _ _ _ _ _ _ _ _ C w (lv_sub hl [3, 4, 1, 2, 0] rfl)
set_option maxHeartbeats 4000000 in
set_option maxRecDepth 100000 in
theorem b_X4_walk_0 (d : Nat) (x1 : Int32) (σ : tk_S) (Q : Int32 → tk_S → Prop) (h : g_X4_walk d 7 [(0, aN 20), (1, aI x1), (2, aI 1), (3, aI 0), (4, aI 0)] σ Q) : g_X4_walk d 0 [(0, aN 20), (1, aI x1)] σ Q := by
  intro p l e s m args below meth c D cy ad base H locs ls C w hl
  obtain ⟨hx, hb, hml, hown, hts, hr, hlk⟩ := id C
  have hl : lv_has ls 5 [(0, .ref (ad 20)), (1, .int x1)] := hl
  refine lv_iconst (v := 1) hx hb dX4_walk_0 (by decide) ?_
  refine lv_istore_n (lv' := [(2, .int 1), (0, .ref (ad 20)), (1, .int x1)]) hx hb dX4_walk_1 rfl hl (by decide) rfl (fun ls hl => ?_)
  refine lv_iconst (v := 0) hx hb dX4_walk_2 (by decide) ?_
  refine lv_istore_n (lv' := [(3, .int 0), (2, .int 1), (0, .ref (ad 20)), (1, .int x1)]) hx hb dX4_walk_3 rfl hl (by decide) rfl (fun ls hl => ?_)
  refine lv_iconst (v := 0) hx hb dX4_walk_4 (by decide) ?_
  refine lv_istore (lv' := [(4, .int 0), (3, .int 0), (2, .int 1), (0, .ref (ad 20)), (1, .int x1)]) hx hb dX4_walk_5 hl (by decide) rfl (fun ls hl => ?_)
  exact h _ _ _ _ _ _ _ _ _ _ _ _ _ _ _ _ C w (lv_sub hl [3, 4, 2, 1, 0] rfl)
theorem e_X4_walk (d : Nat) (x1 : Int32) {σ : tk_S} {Q : Int32 → tk_S → Prop} (h : g_X4_walk d 0 [(0, aN 20), (1, aI x1)] σ Q) : p_X4_walk d [aN 20, aI x1] σ Q := tk_entry (by decide) rfl (fun _ => Nat.le_of_ble_eq_true rfl) (fun _ => rfl) h
abbrev g_X4_canStep (d pc : Nat) (vals : List (Nat × tk_V)) (σ : tk_S) (Q : Int32 → tk_S → Prop) : Prop := tk_G RX4 cX4_canStep 5 (some .boolean) d pc vals σ (tk_i Q)
set_option maxHeartbeats 4000000 in
set_option maxRecDepth 100000 in
theorem b_X4_canStep_5 (d : Nat) (k0 : Nat) (h_0 : tk_sh k0 = tk_shape) (x1 : Int32) (x2 : Int32) (x3 : Int32) (x4 : Int32) (σ : tk_S) (Q : Int32 → tk_S → Prop) (h : (x2 ≤ x4 → Q 1 σ) ∧ (¬ x2 ≤ x4 → p_X4_isWithin d [aN k0, aI x4, aI x1, aI x2, aI x3] σ (fun y4 σ3 => (¬ y4 = 0 → g_X4_canStep (d + 1) 5 [(0, aN k0), (1, aI x1), (2, aI x2), (3, aI x3), (4, aI (x4 + 1))] σ3 Q) ∧ (y4 = 0 → Q 0 σ3)))) : g_X4_canStep (d + 1) 5 [(0, aN k0), (1, aI x1), (2, aI x2), (3, aI x3), (4, aI x4)] σ Q := by
  intro p l e s m args below meth c D cy ad base H locs ls C w hl
  obtain ⟨hx, hb, hml, hown, hts, hr, hlk⟩ := id C
  have hl : lv_has ls 5 [(0, .ref (ad k0)), (1, .int x1), (2, .int x2), (3, .int x3), (4, .int x4)] := hl
  refine lv_iload hx hb dX4_canStep_5 (lv_at hl 4 rfl) ?_
  refine lv_iload_n hx hb dX4_canStep_7 rfl (lv_at hl 2 rfl) ?_
  refine lv_icmp_ge (tgt := 31) hx hb dX4_canStep_8 (by decide) (fun c1 => ?_) (fun c1 => ?_)
  · have h := h.1 c1
    refine lv_iconst (v := 1) hx hb dX4_canStep_31 (by decide) ?_
    exact tk_retz C w dX4_canStep_32 rfl h
  · have h := h.2 c1
    refine lv_aload_n hx hb dX4_canStep_11 rfl (lv_at hl 0 rfl) ?_
    refine lv_iload hx hb dX4_canStep_12 (lv_at hl 4 rfl) ?_
    refine lv_iload_n hx hb dX4_canStep_14 rfl (lv_at hl 1 rfl) ?_
    refine lv_iload_n hx hb dX4_canStep_15 rfl (lv_at hl 2 rfl) ?_
    refine lv_iload_n hx hb dX4_canStep_16 rfl (lv_at hl 3 rfl) ?_
    refine tk_cS C w (as := [aN k0, aI x4, aI x1, aI x2, aI x3]) (rest := []) mw_419 mw_27 mw_417 mw_418 hd_X4_isWithin (by decide) hl.1 (Nat.le_of_ble_eq_true rfl) rfl dX4_canStep_17 h (fun r2 σ3 H locs hq w => ?_)
    obtain ⟨y4, rfl, h⟩ := hq
    refine W.eq (g2 := F0 m 20 ls [.int y4]) rfl ?_
    refine lv_if_ne (tgt := 25) hx hb dX4_canStep_20 (by decide) (fun c5 => ?_) (fun c5 => ?_)
    · have h := h.1 c5
      refine lv_iinc (v := x4 + 1) (lv' := [(4, .int (x4 + 1)), (0, .ref (ad k0)), (1, .int x1), (2, .int x2), (3, .int x3)]) hx hb dX4_canStep_25 hl (k := 4) rfl rfl (by decide) rfl (fun ls hl => ?_)
      refine lv_goto (tgt := 5) hx hb dX4_canStep_28 (by decide) ?_
      exact h _ _ _ _ _ _ _ _ _ _ _ _ _ _ _ _ C w (lv_sub hl [1, 2, 3, 4, 0] rfl)
    · have h := h.2 c5
      refine lv_iconst (v := 0) hx hb dX4_canStep_23 (by decide) ?_
      exact tk_retz C w dX4_canStep_24 rfl h
set_option maxHeartbeats 4000000 in
set_option maxRecDepth 100000 in
theorem b_X4_canStep_0 (d : Nat) (k0 : Nat) (h_0 : tk_sh k0 = tk_shape) (x1 : Int32) (x2 : Int32) (x3 : Int32) (σ : tk_S) (Q : Int32 → tk_S → Prop) (h : g_X4_canStep (d + 1) 5 [(0, aN k0), (1, aI x1), (2, aI x2), (3, aI x3), (4, aI (x1 + 1))] σ Q) : g_X4_canStep (d + 1) 0 [(0, aN k0), (1, aI x1), (2, aI x2), (3, aI x3)] σ Q := by
  intro p l e s m args below meth c D cy ad base H locs ls C w hl
  obtain ⟨hx, hb, hml, hown, hts, hr, hlk⟩ := id C
  have hl : lv_has ls 5 [(0, .ref (ad k0)), (1, .int x1), (2, .int x2), (3, .int x3)] := hl
  refine lv_iload_n hx hb dX4_canStep_0 rfl (lv_at hl 1 rfl) ?_
  refine lv_iconst (v := 1) hx hb dX4_canStep_1 (by decide) ?_
  refine lv_iadd hx hb dX4_canStep_2 ?_
  refine lv_istore (lv' := [(4, .int (x1 + 1)), (0, .ref (ad k0)), (1, .int x1), (2, .int x2), (3, .int x3)]) hx hb dX4_canStep_3 hl (by decide) rfl (fun ls hl => ?_)
  exact h _ _ _ _ _ _ _ _ _ _ _ _ _ _ _ _ C w (lv_sub hl [1, 2, 3, 4, 0] rfl)
theorem e_X4_canStep (d : Nat) (k0 : Nat) (x1 : Int32) (x2 : Int32) (x3 : Int32) {σ : tk_S} {Q : Int32 → tk_S → Prop} (h : g_X4_canStep d 0 [(0, aN k0), (1, aI x1), (2, aI x2), (3, aI x3)] σ Q) : p_X4_canStep d [aN k0, aI x1, aI x2, aI x3] σ Q := tk_entry (by decide) rfl (fun _ => Nat.le_of_ble_eq_true rfl) (fun _ => rfl) h
abbrev g_X4_isWithin (d pc : Nat) (vals : List (Nat × tk_V)) (σ : tk_S) (Q : Int32 → tk_S → Prop) : Prop := tk_G RX4 cX4_isWithin 14 (some .boolean) d pc vals σ (tk_i Q)
set_option maxHeartbeats 4000000 in
set_option maxRecDepth 100000 in
theorem b_X4_isWithin_0 (d : Nat) (k0 : Nat) (h_0 : tk_sh k0 = tk_shape) (x1 : Int32) (x2 : Int32) (x3 : Int32) (x4 : Int32) (σ : tk_S) (Q : Int32 → tk_S → Prop) (h : vp_in x3 8 ∧ (vp_in x2 8 ∧ (∀ z3 : Int32, z3 = (σ.1 (k0 + 1) (Int32.toNatClampNeg x3)) - (σ.1 (k0 + 1) (Int32.toNatClampNeg x2)) → (vp_in x3 8 ∧ (vp_in x2 8 ∧ (∀ z6 : Int32, z6 = (σ.1 (k0 + 2) (Int32.toNatClampNeg x3)) - (σ.1 (k0 + 2) (Int32.toNatClampNeg x2)) → (vp_in x1 8 ∧ (vp_in x2 8 ∧ (∀ z9 : Int32, z9 = (σ.1 (k0 + 1) (Int32.toNatClampNeg x1)) - (σ.1 (k0 + 1) (Int32.toNatClampNeg x2)) → (vp_in x1 8 ∧ (vp_in x2 8 ∧ (∀ z12 : Int32, z12 = (σ.1 (k0 + 2) (Int32.toNatClampNeg x1)) - (σ.1 (k0 + 2) (Int32.toNatClampNeg x2)) → (∀ z13 : Int32, z13 = (z3 * z3) + (z6 * z6) → (∀ z14 : Int32, z14 = (z9 * z3) + (z12 * z6) → (∀ z15 : Int32, z15 = x4 * x4 → ((0 < z14 → (z14 < z13 → ∀ z18 : Int32, z18 = (z9 * z6) - (z12 * z3) → (((z15 * z13) < (z18 * z18) → Q 0 σ) ∧ (¬ (z15 * z13) < (z18 * z18) → Q 1 σ))) ∧ (¬ z14 < z13 → ∀ z20 : Int32, z20 = z9 - z3 → (∀ z21 : Int32, z21 = z12 - z6 → ((z15 < ((z20 * z20) + (z21 * z21)) → Q 0 σ) ∧ (¬ z15 < ((z20 * z20) + (z21 * z21)) → Q 1 σ))))) ∧ (¬ 0 < z14 → (z15 < ((z9 * z9) + (z12 * z12)) → Q 0 σ) ∧ (¬ z15 < ((z9 * z9) + (z12 * z12)) → Q 1 σ)))))))))))))))))) : g_X4_isWithin d 0 [(0, aN k0), (1, aI x1), (2, aI x2), (3, aI x3), (4, aI x4)] σ Q := by
  intro p l e s m args below meth c D cy ad base H locs ls C w hl
  obtain ⟨hx, hb, hml, hown, hts, hr, hlk⟩ := id C
  have hl : lv_has ls 14 [(0, .ref (ad k0)), (1, .int x1), (2, .int x2), (3, .int x3), (4, .int x4)] := hl
  refine lv_aload_n hx hb dX4_isWithin_0 rfl (lv_at hl 0 rfl) ?_
  refine tk_get (k := k0) (v := .ref (ad (k0 + 1))) hx hb hts hown w h_0 rfl inlX3 3 (by decide) mw_420 rfl dX4_isWithin_1 ?_
  refine lv_iload_n hx hb dX4_isWithin_4 rfl (lv_at hl 3 rfl) ?_
  obtain ⟨hi1, h⟩ := h
  refine tk_iald (k := k0 + 1) hx hb w (tk_s1 h_0) hi1 dX4_isWithin_5 ?_
  refine lv_aload_n hx hb dX4_isWithin_6 rfl (lv_at hl 0 rfl) ?_
  refine tk_get (k := k0) (v := .ref (ad (k0 + 1))) hx hb hts hown w h_0 rfl inlX3 3 (by decide) mw_420 rfl dX4_isWithin_7 ?_
  refine lv_iload_n hx hb dX4_isWithin_10 rfl (lv_at hl 2 rfl) ?_
  obtain ⟨hi2, h⟩ := h
  refine tk_iald (k := k0 + 1) hx hb w (tk_s1 h_0) hi2 dX4_isWithin_11 ?_
  refine lv_isub hx hb dX4_isWithin_12 ?_
  refine lv_topi (fun z3 e_z3 => ?_)
  have h := h z3 e_z3
  refine lv_istore (lv' := [(5, .int z3), (0, .ref (ad k0)), (1, .int x1), (2, .int x2), (3, .int x3), (4, .int x4)]) hx hb dX4_isWithin_13 hl (by decide) rfl (fun ls hl => ?_)
  refine lv_aload_n hx hb dX4_isWithin_15 rfl (lv_at hl 1 rfl) ?_
  refine tk_get (k := k0) (v := .ref (ad (k0 + 2))) hx hb hts hown w h_0 rfl inlX3 4 (by decide) mw_421 rfl dX4_isWithin_16 ?_
  refine lv_iload_n hx hb dX4_isWithin_19 rfl (lv_at hl 4 rfl) ?_
  obtain ⟨hi4, h⟩ := h
  refine tk_iald (k := k0 + 2) hx hb w (tk_s2 h_0) hi4 dX4_isWithin_20 ?_
  refine lv_aload_n hx hb dX4_isWithin_21 rfl (lv_at hl 1 rfl) ?_
  refine tk_get (k := k0) (v := .ref (ad (k0 + 2))) hx hb hts hown w h_0 rfl inlX3 4 (by decide) mw_421 rfl dX4_isWithin_22 ?_
  refine lv_iload_n hx hb dX4_isWithin_25 rfl (lv_at hl 3 rfl) ?_
  obtain ⟨hi5, h⟩ := h
  refine tk_iald (k := k0 + 2) hx hb w (tk_s2 h_0) hi5 dX4_isWithin_26 ?_
  refine lv_isub hx hb dX4_isWithin_27 ?_
  refine lv_topi (fun z6 e_z6 => ?_)
  have h := h z6 e_z6
  refine lv_istore (lv' := [(6, .int z6), (5, .int z3), (0, .ref (ad k0)), (1, .int x1), (2, .int x2), (3, .int x3), (4, .int x4)]) hx hb dX4_isWithin_28 hl (by decide) rfl (fun ls hl => ?_)
  refine lv_aload_n hx hb dX4_isWithin_30 rfl (lv_at hl 2 rfl) ?_
  refine tk_get (k := k0) (v := .ref (ad (k0 + 1))) hx hb hts hown w h_0 rfl inlX3 3 (by decide) mw_420 rfl dX4_isWithin_31 ?_
  refine lv_iload_n hx hb dX4_isWithin_34 rfl (lv_at hl 3 rfl) ?_
  obtain ⟨hi7, h⟩ := h
  refine tk_iald (k := k0 + 1) hx hb w (tk_s1 h_0) hi7 dX4_isWithin_35 ?_
  refine lv_aload_n hx hb dX4_isWithin_36 rfl (lv_at hl 2 rfl) ?_
  refine tk_get (k := k0) (v := .ref (ad (k0 + 1))) hx hb hts hown w h_0 rfl inlX3 3 (by decide) mw_420 rfl dX4_isWithin_37 ?_
  refine lv_iload_n hx hb dX4_isWithin_40 rfl (lv_at hl 4 rfl) ?_
  obtain ⟨hi8, h⟩ := h
  refine tk_iald (k := k0 + 1) hx hb w (tk_s1 h_0) hi8 dX4_isWithin_41 ?_
  refine lv_isub hx hb dX4_isWithin_42 ?_
  refine lv_topi (fun z9 e_z9 => ?_)
  have h := h z9 e_z9
  refine lv_istore (lv' := [(7, .int z9), (6, .int z6), (5, .int z3), (0, .ref (ad k0)), (1, .int x1), (2, .int x2), (3, .int x3), (4, .int x4)]) hx hb dX4_isWithin_43 hl (by decide) rfl (fun ls hl => ?_)
  refine lv_aload_n hx hb dX4_isWithin_45 rfl (lv_at hl 3 rfl) ?_
  refine tk_get (k := k0) (v := .ref (ad (k0 + 2))) hx hb hts hown w h_0 rfl inlX3 4 (by decide) mw_421 rfl dX4_isWithin_46 ?_
  refine lv_iload_n hx hb dX4_isWithin_49 rfl (lv_at hl 4 rfl) ?_
  obtain ⟨hi10, h⟩ := h
  refine tk_iald (k := k0 + 2) hx hb w (tk_s2 h_0) hi10 dX4_isWithin_50 ?_
  refine lv_aload_n hx hb dX4_isWithin_51 rfl (lv_at hl 3 rfl) ?_
  refine tk_get (k := k0) (v := .ref (ad (k0 + 2))) hx hb hts hown w h_0 rfl inlX3 4 (by decide) mw_421 rfl dX4_isWithin_52 ?_
  refine lv_iload_n hx hb dX4_isWithin_55 rfl (lv_at hl 5 rfl) ?_
  obtain ⟨hi11, h⟩ := h
  refine tk_iald (k := k0 + 2) hx hb w (tk_s2 h_0) hi11 dX4_isWithin_56 ?_
  refine lv_isub hx hb dX4_isWithin_57 ?_
  refine lv_topi (fun z12 e_z12 => ?_)
  have h := h z12 e_z12
  refine lv_istore (lv' := [(8, .int z12), (7, .int z9), (6, .int z6), (5, .int z3), (0, .ref (ad k0)), (1, .int x1), (2, .int x2), (3, .int x3), (4, .int x4)]) hx hb dX4_isWithin_58 hl (by decide) rfl (fun ls hl => ?_)
  refine lv_iload hx hb dX4_isWithin_60 (lv_at hl 3 rfl) ?_
  refine lv_iload hx hb dX4_isWithin_62 (lv_at hl 3 rfl) ?_
  refine lv_imul hx hb dX4_isWithin_64 ?_
  refine lv_iload hx hb dX4_isWithin_65 (lv_at hl 2 rfl) ?_
  refine lv_iload hx hb dX4_isWithin_67 (lv_at hl 2 rfl) ?_
  refine lv_imul hx hb dX4_isWithin_69 ?_
  refine lv_iadd hx hb dX4_isWithin_70 ?_
  refine lv_topi (fun z13 e_z13 => ?_)
  have h := h z13 e_z13
  refine lv_istore (lv' := [(9, .int z13), (8, .int z12), (7, .int z9), (6, .int z6), (5, .int z3), (0, .ref (ad k0)), (1, .int x1), (2, .int x2), (3, .int x3), (4, .int x4)]) hx hb dX4_isWithin_71 hl (by decide) rfl (fun ls hl => ?_)
  refine lv_iload hx hb dX4_isWithin_73 (lv_at hl 2 rfl) ?_
  refine lv_iload hx hb dX4_isWithin_75 (lv_at hl 4 rfl) ?_
  refine lv_imul hx hb dX4_isWithin_77 ?_
  refine lv_iload hx hb dX4_isWithin_78 (lv_at hl 1 rfl) ?_
  refine lv_iload hx hb dX4_isWithin_80 (lv_at hl 3 rfl) ?_
  refine lv_imul hx hb dX4_isWithin_82 ?_
  refine lv_iadd hx hb dX4_isWithin_83 ?_
  refine lv_topi (fun z14 e_z14 => ?_)
  have h := h z14 e_z14
  refine lv_istore (lv' := [(10, .int z14), (9, .int z13), (8, .int z12), (7, .int z9), (6, .int z6), (5, .int z3), (0, .ref (ad k0)), (1, .int x1), (2, .int x2), (3, .int x3), (4, .int x4)]) hx hb dX4_isWithin_84 hl (by decide) rfl (fun ls hl => ?_)
  refine lv_iload hx hb dX4_isWithin_86 (lv_at hl 10 rfl) ?_
  refine lv_iload hx hb dX4_isWithin_88 (lv_at hl 10 rfl) ?_
  refine lv_imul hx hb dX4_isWithin_90 ?_
  refine lv_topi (fun z15 e_z15 => ?_)
  have h := h z15 e_z15
  refine lv_istore (lv' := [(11, .int z15), (10, .int z14), (9, .int z13), (8, .int z12), (7, .int z9), (6, .int z6), (5, .int z3), (0, .ref (ad k0)), (1, .int x1), (2, .int x2), (3, .int x3), (4, .int x4)]) hx hb dX4_isWithin_91 hl (by decide) rfl (fun ls hl => ?_)
  refine lv_iload hx hb dX4_isWithin_93 (lv_at hl 1 rfl) ?_
  refine lv_if_gt (tgt := 120) hx hb dX4_isWithin_95 (by decide) (fun c16 => ?_) (fun c16 => ?_)
  · have h := h.1 c16
    refine lv_iload hx hb dX4_isWithin_120 (lv_at hl 1 rfl) ?_
    refine lv_iload hx hb dX4_isWithin_122 (lv_at hl 2 rfl) ?_
    refine lv_icmp_lt (tgt := 163) hx hb dX4_isWithin_124 (by decide) (fun c17 => ?_) (fun c17 => ?_)
    · have h := h.1 c17
      refine lv_iload hx hb dX4_isWithin_163 (lv_at hl 4 rfl) ?_
      refine lv_iload hx hb dX4_isWithin_165 (lv_at hl 5 rfl) ?_
      refine lv_imul hx hb dX4_isWithin_167 ?_
      refine lv_iload hx hb dX4_isWithin_168 (lv_at hl 3 rfl) ?_
      refine lv_iload hx hb dX4_isWithin_170 (lv_at hl 6 rfl) ?_
      refine lv_imul hx hb dX4_isWithin_172 ?_
      refine lv_isub hx hb dX4_isWithin_173 ?_
      refine lv_topi (fun z18 e_z18 => ?_)
      have h := h z18 e_z18
      refine lv_istore (lv' := [(12, .int z18), (11, .int z15), (10, .int z14), (9, .int z13), (8, .int z12), (7, .int z9), (6, .int z6), (5, .int z3), (0, .ref (ad k0)), (1, .int x1), (2, .int x2), (3, .int x3), (4, .int x4)]) hx hb dX4_isWithin_174 hl (by decide) rfl (fun ls hl => ?_)
      refine lv_iload hx hb dX4_isWithin_176 (lv_at hl 0 rfl) ?_
      refine lv_iload hx hb dX4_isWithin_178 (lv_at hl 0 rfl) ?_
      refine lv_imul hx hb dX4_isWithin_180 ?_
      refine lv_iload hx hb dX4_isWithin_181 (lv_at hl 1 rfl) ?_
      refine lv_iload hx hb dX4_isWithin_183 (lv_at hl 3 rfl) ?_
      refine lv_imul hx hb dX4_isWithin_185 ?_
      refine lv_icmp_gt (tgt := 193) hx hb dX4_isWithin_186 (by decide) (fun c19 => ?_) (fun c19 => ?_)
      · have h := h.1 c19
        refine lv_iconst (v := 0) hx hb dX4_isWithin_193 (by decide) ?_
        exact tk_retz C w dX4_isWithin_194 rfl h
      · have h := h.2 c19
        refine lv_iconst (v := 1) hx hb dX4_isWithin_189 (by decide) ?_
        refine lv_goto (tgt := 194) hx hb dX4_isWithin_190 (by decide) ?_
        exact tk_retz C w dX4_isWithin_194 rfl h
    · have h := h.2 c17
      refine lv_iload hx hb dX4_isWithin_127 (lv_at hl 4 rfl) ?_
      refine lv_iload hx hb dX4_isWithin_129 (lv_at hl 6 rfl) ?_
      refine lv_isub hx hb dX4_isWithin_131 ?_
      refine lv_topi (fun z20 e_z20 => ?_)
      have h := h z20 e_z20
      refine lv_istore (lv' := [(12, .int z20), (11, .int z15), (10, .int z14), (9, .int z13), (8, .int z12), (7, .int z9), (6, .int z6), (5, .int z3), (0, .ref (ad k0)), (1, .int x1), (2, .int x2), (3, .int x3), (4, .int x4)]) hx hb dX4_isWithin_132 hl (by decide) rfl (fun ls hl => ?_)
      refine lv_iload hx hb dX4_isWithin_134 (lv_at hl 4 rfl) ?_
      refine lv_iload hx hb dX4_isWithin_136 (lv_at hl 6 rfl) ?_
      refine lv_isub hx hb dX4_isWithin_138 ?_
      refine lv_topi (fun z21 e_z21 => ?_)
      have h := h z21 e_z21
      refine lv_istore (lv' := [(13, .int z21), (12, .int z20), (11, .int z15), (10, .int z14), (9, .int z13), (8, .int z12), (7, .int z9), (6, .int z6), (5, .int z3), (0, .ref (ad k0)), (1, .int x1), (2, .int x2), (3, .int x3), (4, .int x4)]) hx hb dX4_isWithin_139 hl (by decide) rfl (fun ls hl => ?_)
      refine lv_iload hx hb dX4_isWithin_141 (lv_at hl 1 rfl) ?_
      refine lv_iload hx hb dX4_isWithin_143 (lv_at hl 1 rfl) ?_
      refine lv_imul hx hb dX4_isWithin_145 ?_
      refine lv_iload hx hb dX4_isWithin_146 (lv_at hl 0 rfl) ?_
      refine lv_iload hx hb dX4_isWithin_148 (lv_at hl 0 rfl) ?_
      refine lv_imul hx hb dX4_isWithin_150 ?_
      refine lv_iadd hx hb dX4_isWithin_151 ?_
      refine lv_iload hx hb dX4_isWithin_152 (lv_at hl 2 rfl) ?_
      refine lv_icmp_gt (tgt := 161) hx hb dX4_isWithin_154 (by decide) (fun c22 => ?_) (fun c22 => ?_)
      · have h := h.1 c22
        refine lv_iconst (v := 0) hx hb dX4_isWithin_161 (by decide) ?_
        exact tk_retz C w dX4_isWithin_162 rfl h
      · have h := h.2 c22
        refine lv_iconst (v := 1) hx hb dX4_isWithin_157 (by decide) ?_
        refine lv_goto (tgt := 162) hx hb dX4_isWithin_158 (by decide) ?_
        exact tk_retz C w dX4_isWithin_162 rfl h
  · have h := h.2 c16
    refine lv_iload hx hb dX4_isWithin_98 (lv_at hl 4 rfl) ?_
    refine lv_iload hx hb dX4_isWithin_100 (lv_at hl 4 rfl) ?_
    refine lv_imul hx hb dX4_isWithin_102 ?_
    refine lv_iload hx hb dX4_isWithin_103 (lv_at hl 3 rfl) ?_
    refine lv_iload hx hb dX4_isWithin_105 (lv_at hl 3 rfl) ?_
    refine lv_imul hx hb dX4_isWithin_107 ?_
    refine lv_iadd hx hb dX4_isWithin_108 ?_
    refine lv_iload hx hb dX4_isWithin_109 (lv_at hl 0 rfl) ?_
    refine lv_icmp_gt (tgt := 118) hx hb dX4_isWithin_111 (by decide) (fun c23 => ?_) (fun c23 => ?_)
    · have h := h.1 c23
      refine lv_iconst (v := 0) hx hb dX4_isWithin_118 (by decide) ?_
      exact tk_retz C w dX4_isWithin_119 rfl h
    · have h := h.2 c23
      refine lv_iconst (v := 1) hx hb dX4_isWithin_114 (by decide) ?_
      refine lv_goto (tgt := 119) hx hb dX4_isWithin_115 (by decide) ?_
      exact tk_retz C w dX4_isWithin_119 rfl h
theorem e_X4_isWithin (d : Nat) (k0 : Nat) (x1 : Int32) (x2 : Int32) (x3 : Int32) (x4 : Int32) {σ : tk_S} {Q : Int32 → tk_S → Prop} (h : g_X4_isWithin d 0 [(0, aN k0), (1, aI x1), (2, aI x2), (3, aI x3), (4, aI x4)] σ Q) : p_X4_isWithin d [aN k0, aI x1, aI x2, aI x3, aI x4] σ Q := tk_entry (by decide) rfl (fun _ => Nat.le_of_ble_eq_true rfl) (fun _ => rfl) h
