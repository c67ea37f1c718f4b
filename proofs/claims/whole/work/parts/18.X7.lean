abbrev g_X7_corner (d pc : Nat) (vals : List (Nat × tk_V)) (σ : tk_S) (Q : Int32 → tk_S → Prop) : Prop := tk_G RX7 cX7_corner 3 (some .int) d pc vals σ (tk_i Q)
set_option maxHeartbeats 4000000 in
set_option maxRecDepth 100000 in
theorem b_X7_corner_0 (d : Nat) (x1 : Int32) (x2 : Int32) (σ : tk_S) (Q : Int32 → tk_S → Prop) (h : p_X7_isPin d [aI x1, aI x2] σ (fun y3 σ2 => (y3 = 0 → Q (-1) σ2) ∧ (¬ y3 = 0 → ((σ2.1 0 4) < 8 → vp_in (σ2.1 0 4) 8 ∧ (vp_in ((tk_up σ2 2 (Int32.toNatClampNeg (σ2.1 0 4)) x1).1 0 4) 8 ∧ (∀ σ8 : tk_S, σ8 = tk_up (tk_up σ2 2 (Int32.toNatClampNeg (σ2.1 0 4)) x1) 3 (Int32.toNatClampNeg ((tk_up σ2 2 (Int32.toNatClampNeg (σ2.1 0 4)) x1).1 0 4)) x2 → Q ((tk_up σ8 0 4 ((σ8.1 0 4) + 1)).1 0 4) (tk_up σ8 0 4 ((σ8.1 0 4) + 1))))) ∧ (¬ (σ2.1 0 4) < 8 → Q (-1) σ2)))) : g_X7_corner (d + 1) 0 [(0, aN 0), (1, aI x1), (2, aI x2)] σ Q := by
  intro p l e s m args below meth c D cy ad base H locs ls C w hl
  obtain ⟨hx, hb, hml, hown, hts, hr, hlk⟩ := id C
  have hl : lv_has ls 3 [(0, .ref (ad 0)), (1, .int x1), (2, .int x2)] := hl
  refine lv_iload_n hx hb dX7_corner_0 rfl (lv_at hl 1 rfl) ?_
  refine lv_iload_n hx hb dX7_corner_1 rfl (lv_at hl 2 rfl) ?_
  refine tk_cS C w (as := [aI x1, aI x2]) (rest := []) mw_129 mw_2 mw_127 mw_128 hd_X7_isPin (by decide) hl.1 (Nat.le_of_ble_eq_true rfl) rfl dX7_corner_2 h (fun r1 σ2 H locs hq w => ?_)
  obtain ⟨y3, rfl, h⟩ := hq
  refine W.eq (g2 := F0 m 5 ls [.int y3]) rfl ?_
  refine lv_if_eq (tgt := 17) hx hb dX7_corner_5 (by decide) (fun c4 => ?_) (fun c4 => ?_)
  · have h := h.1 c4
    refine lv_iconst (v := (-1)) hx hb dX7_corner_17 (by decide) ?_
    exact tk_reti C w dX7_corner_18 h
  · have h := h.2 c4
    refine lv_aload_n hx hb dX7_corner_8 rfl (lv_at hl 0 rfl) ?_
    refine tk_get (k := 0) (v := .int (σ2.1 0 4)) hx hb hts hown w rfl rfl inlX7 4 (by decide) mw_126 rfl dX7_corner_9 ?_
    refine lv_bipush (v := 8) hx hb dX7_corner_12 (by decide) ?_
    refine lv_icmp_lt (tgt := 19) hx hb dX7_corner_14 (by decide) (fun c5 => ?_) (fun c5 => ?_)
    · have h := h.1 c5
      refine lv_aload_n hx hb dX7_corner_19 rfl (lv_at hl 0 rfl) ?_
      refine tk_get (k := 0) (v := .ref (ad 2)) hx hb hts hown w rfl rfl inlX7 2 (by decide) mw_15 rfl dX7_corner_20 ?_
      refine lv_aload_n hx hb dX7_corner_23 rfl (lv_at hl 0 rfl) ?_
      refine tk_get (k := 0) (v := .int (σ2.1 0 4)) hx hb hts hown w rfl rfl inlX7 4 (by decide) mw_126 rfl dX7_corner_24 ?_
      refine lv_iload_n hx hb dX7_corner_27 rfl (lv_at hl 1 rfl) ?_
      obtain ⟨hi6, h⟩ := h
      refine tk_iast (k := 2) hx hb w rfl hi6 dX7_corner_28 (fun H locs w => ?_)
      refine lv_aload_n hx hb dX7_corner_29 rfl (lv_at hl 0 rfl) ?_
      refine tk_get (k := 0) (v := .ref (ad 3)) hx hb hts hown w rfl rfl inlX7 3 (by decide) mw_16 rfl dX7_corner_30 ?_
      refine lv_aload_n hx hb dX7_corner_33 rfl (lv_at hl 0 rfl) ?_
      refine tk_get (k := 0) (v := .int ((tk_up σ2 2 (Int32.toNatClampNeg (σ2.1 0 4)) x1).1 0 4)) hx hb hts hown w rfl rfl inlX7 4 (by decide) mw_126 rfl dX7_corner_34 ?_
      refine lv_iload_n hx hb dX7_corner_37 rfl (lv_at hl 2 rfl) ?_
      obtain ⟨hi7, h⟩ := h
      refine tk_iast (k := 3) hx hb w rfl hi7 dX7_corner_38 (fun H locs w => ?_)
      generalize e_σ8 : tk_up (tk_up σ2 2 (Int32.toNatClampNeg (σ2.1 0 4)) x1) 3 (Int32.toNatClampNeg ((tk_up σ2 2 (Int32.toNatClampNeg (σ2.1 0 4)) x1).1 0 4)) x2 = σ8 at w
      have h := h σ8 e_σ8.symm
      refine lv_aload_n hx hb dX7_corner_39 rfl (lv_at hl 0 rfl) ?_
      refine lv_dup hx hb dX7_corner_40 rfl ?_
      refine tk_get (k := 0) (v := .int (σ8.1 0 4)) hx hb hts hown w rfl rfl inlX7 4 (by decide) mw_126 rfl dX7_corner_41 ?_
      refine lv_iconst (v := 1) hx hb dX7_corner_44 (by decide) ?_
      refine lv_iadd hx hb dX7_corner_45 ?_
      refine tk_puti (k := 0) (ty := .int) hx hb hts hown w rfl rfl inlX7 tyX7 tyX7_ok nmX7 4 (by decide) mw_126 rfl rfl (by decide +kernel) rfl rfl dX7_corner_46 (fun H locs w => ?_)
      refine lv_aload_n hx hb dX7_corner_49 rfl (lv_at hl 0 rfl) ?_
      refine tk_get (k := 0) (v := .int ((tk_up σ8 0 4 ((σ8.1 0 4) + 1)).1 0 4)) hx hb hts hown w rfl rfl inlX7 4 (by decide) mw_126 rfl dX7_corner_50 ?_
      exact tk_reti C w dX7_corner_53 h
    · have h := h.2 c5
      refine lv_iconst (v := (-1)) hx hb dX7_corner_17 (by decide) ?_
      exact tk_reti C w dX7_corner_18 h
theorem e_X7_corner (d : Nat) (x1 : Int32) (x2 : Int32) {σ : tk_S} {Q : Int32 → tk_S → Prop} (h : g_X7_corner d 0 [(0, aN 0), (1, aI x1), (2, aI x2)] σ Q) : p_X7_corner d [aN 0, aI x1, aI x2] σ Q := tk_entry (by decide) rfl (fun _ => Nat.le_of_ble_eq_true rfl) (fun _ => rfl) h
abbrev g_X7_line (d pc : Nat) (vals : List (Nat × tk_V)) (σ : tk_S) (Q : Int32 → tk_S → Prop) : Prop := tk_G RX7 cX7_line 4 (some .int) d pc vals σ (tk_i Q)
set_option maxHeartbeats 4000000 in
set_option maxRecDepth 100000 in
theorem b_X7_line_35 (d : Nat) (k2 : Nat) (h_2 : tk_sh k2 = tk_shape) (x3 : Int32) (σ : tk_S) (Q : Int32 → tk_S → Prop) (h : ((σ.1 0 4) ≤ x3 → p_X7_finish d [aN 0, aN k2] (tk_up σ 0 4 0) (fun y4 σ3 => Q y4 σ3)) ∧ (¬ (σ.1 0 4) ≤ x3 → vp_in x3 8 ∧ (vp_in x3 8 ∧ (p_X3_addPlace d [aN k2, aI (σ.1 2 (Int32.toNatClampNeg x3)), aI (σ.1 3 (Int32.toNatClampNeg x3))] σ (fun σ8 => g_X7_line (d + 1) 35 [(0, aN 0), (2, aN k2), (3, aI (x3 + 1))] σ8 Q))))) : g_X7_line (d + 1) 35 [(0, aN 0), (2, aN k2), (3, aI x3)] σ Q := by
  intro p l e s m args below meth c D cy ad base H locs ls C w hl
  obtain ⟨hx, hb, hml, hown, hts, hr, hlk⟩ := id C
  have hl : lv_has ls 4 [(0, .ref (ad 0)), (2, .ref (ad k2)), (3, .int x3)] := hl
  refine lv_iload_n hx hb dX7_line_35 rfl (lv_at hl 2 rfl) ?_
  refine lv_aload_n hx hb dX7_line_36 rfl (lv_at hl 0 rfl) ?_
  refine tk_get (k := 0) (v := .int (σ.1 0 4)) hx hb hts hown w rfl rfl inlX7 4 (by decide) mw_126 rfl dX7_line_37 ?_
  refine lv_icmp_ge (tgt := 65) hx hb dX7_line_40 (by decide) (fun c1 => ?_) (fun c1 => ?_)
  · have h := h.1 c1
    refine lv_aload_n hx hb dX7_line_65 rfl (lv_at hl 0 rfl) ?_
    refine lv_iconst (v := 0) hx hb dX7_line_66 (by decide) ?_
    refine tk_puti (k := 0) (ty := .int) hx hb hts hown w rfl rfl inlX7 tyX7 tyX7_ok nmX7 4 (by decide) mw_126 rfl rfl (by decide +kernel) rfl rfl dX7_line_67 (fun H locs w => ?_)
    refine lv_aload_n hx hb dX7_line_70 rfl (lv_at hl 0 rfl) ?_
    refine lv_aload_n hx hb dX7_line_71 rfl (lv_at hl 1 rfl) ?_
    refine tk_cV C w (k := 0) rfl rfl (as := [aN k2]) (rest := []) mw_164 mw_2 mw_161 mw_162 mw_163 hd_X7_finish (by decide) hl.1 (Nat.le_of_ble_eq_true rfl) rfl dX7_line_72 h (fun r2 σ3 H locs hq w => ?_)
    obtain ⟨y4, rfl, h⟩ := hq
    refine W.eq (g2 := F0 m 75 ls [.int y4]) rfl ?_
    exact tk_reti C w dX7_line_75 h
  · have h := h.2 c1
    refine lv_aload_n hx hb dX7_line_43 rfl (lv_at hl 1 rfl) ?_
    refine lv_aload_n hx hb dX7_line_44 rfl (lv_at hl 0 rfl) ?_
    refine tk_get (k := 0) (v := .ref (ad 2)) hx hb hts hown w rfl rfl inlX7 2 (by decide) mw_15 rfl dX7_line_45 ?_
    refine lv_iload_n hx hb dX7_line_48 rfl (lv_at hl 2 rfl) ?_
    obtain ⟨hi5, h⟩ := h
    refine tk_iald (k := 2) hx hb w rfl hi5 dX7_line_49 ?_
    refine lv_aload_n hx hb dX7_line_50 rfl (lv_at hl 0 rfl) ?_
    refine tk_get (k := 0) (v := .ref (ad 3)) hx hb hts hown w rfl rfl inlX7 3 (by decide) mw_16 rfl dX7_line_51 ?_
    refine lv_iload_n hx hb dX7_line_54 rfl (lv_at hl 2 rfl) ?_
    obtain ⟨hi6, h⟩ := h
    refine tk_iald (k := 3) hx hb w rfl hi6 dX7_line_55 ?_
    refine tk_cV C w (k := k2) h_2 rfl (as := [aI (σ.1 2 (Int32.toNatClampNeg x3)), aI (σ.1 3 (Int32.toNatClampNeg x3))]) (rest := []) mw_160 mw_48 mw_157 mw_158 mw_159 hd_X3_addPlace (by decide) hl.1 (Nat.le_of_ble_eq_true rfl) rfl dX7_line_56 h (fun r7 σ8 H locs hq w => ?_)
    obtain ⟨rfl, h⟩ := hq
    refine W.eq (g2 := F0 m 59 ls []) rfl ?_
    refine lv_iinc (v := x3 + 1) (lv' := [(3, .int (x3 + 1)), (0, .ref (ad 0)), (2, .ref (ad k2))]) hx hb dX7_line_59 hl (k := 2) rfl rfl (by decide) rfl (fun ls hl => ?_)
    refine lv_goto (tgt := 35) hx hb dX7_line_62 (by decide) ?_
    exact h _ _ _ _ _ _ _ _ _ _ _ _ _ _ _ _ C w (lv_sub hl [1, 2, 0] rfl)
set_option maxHeartbeats 4000000 in
set_option maxRecDepth 100000 in
theorem b_X7_line_0 (d : Nat) (x1 : Int32) (σ : tk_S) (Q : Int32 → tk_S → Prop) (h : ((σ.1 0 4) = 0 → Q (-1) σ) ∧ (¬ (σ.1 0 4) = 0 → p_X7_canAdd d [aN 0, aI x1] σ (fun y4 σ3 => (¬ y4 = 0 → vp_in (σ3.1 0 1) 12 ∧ (p_X3_begin d [aN (1 + 71 + 5 * Int32.toNatClampNeg (σ3.1 0 1)), aI 0, aI x1] σ3 (fun σ8 => g_X7_line (d + 1) 35 [(0, aN 0), (2, aN (1 + 71 + 5 * Int32.toNatClampNeg (σ3.1 0 1))), (3, aI 0)] σ8 Q))) ∧ (y4 = 0 → Q (-1) σ3)))) : g_X7_line (d + 1) 0 [(0, aN 0), (1, aI x1)] σ Q := by
  intro p l e s m args below meth c D cy ad base H locs ls C w hl
  obtain ⟨hx, hb, hml, hown, hts, hr, hlk⟩ := id C
  have hl : lv_has ls 4 [(0, .ref (ad 0)), (1, .int x1)] := hl
  refine lv_aload_n hx hb dX7_line_0 rfl (lv_at hl 0 rfl) ?_
  refine tk_get (k := 0) (v := .int (σ.1 0 4)) hx hb hts hown w rfl rfl inlX7 4 (by decide) mw_126 rfl dX7_line_1 ?_
  refine lv_if_eq (tgt := 15) hx hb dX7_line_4 (by decide) (fun c1 => ?_) (fun c1 => ?_)
  · have h := h.1 c1
    refine lv_iconst (v := (-1)) hx hb dX7_line_15 (by decide) ?_
    exact tk_reti C w dX7_line_16 h
  · have h := h.2 c1
    refine lv_aload_n hx hb dX7_line_7 rfl (lv_at hl 0 rfl) ?_
    refine lv_iload_n hx hb dX7_line_8 rfl (lv_at hl 1 rfl) ?_
    refine tk_cV C w (k := 0) rfl rfl (as := [aI x1]) (rest := []) mw_149 mw_2 mw_146 mw_147 mw_148 hd_X7_canAdd (by decide) hl.1 (Nat.le_of_ble_eq_true rfl) rfl dX7_line_9 h (fun r2 σ3 H locs hq w => ?_)
    obtain ⟨y4, rfl, h⟩ := hq
    refine W.eq (g2 := F0 m 12 ls [.int y4]) rfl ?_
    refine lv_if_ne (tgt := 17) hx hb dX7_line_12 (by decide) (fun c5 => ?_) (fun c5 => ?_)
    · have h := h.1 c5
      refine lv_aload_n hx hb dX7_line_17 rfl (lv_at hl 0 rfl) ?_
      refine tk_get (k := 0) (v := .ref (ad 1)) hx hb hts hown w rfl rfl inlX7 0 (by decide) mw_13 rfl dX7_line_18 ?_
      refine lv_aload_n hx hb dX7_line_21 rfl (lv_at hl 0 rfl) ?_
      refine tk_get (k := 0) (v := .int (σ3.1 0 1)) hx hb hts hown w rfl rfl inlX7 1 (by decide) mw_145 rfl dX7_line_22 ?_
      obtain ⟨hi6, h⟩ := h
      refine tk_aald (k := 1) (t := 0) (ty := .object "TouchSheet$Shape") hx hb w rfl (by decide) rfl rfl hi6 dX7_line_25 ?_
      refine lv_astore_n (lv' := [(2, .ref (ad (1 + 71 + 5 * Int32.toNatClampNeg (σ3.1 0 1)))), (0, .ref (ad 0)), (1, .int x1)]) hx hb dX7_line_26 rfl hl (by decide) rfl (fun ls hl => ?_)
      refine lv_aload_n hx hb dX7_line_27 rfl (lv_at hl 0 rfl) ?_
      refine lv_iconst (v := 0) hx hb dX7_line_28 (by decide) ?_
      refine lv_iload_n hx hb dX7_line_29 rfl (lv_at hl 2 rfl) ?_
      refine tk_cV C w (k := 1 + 71 + 5 * Int32.toNatClampNeg (σ3.1 0 1)) (tk_r1 hi6) rfl (as := [aI 0, aI x1]) (rest := []) mw_153 mw_48 mw_150 mw_151 mw_152 hd_X3_begin (by decide) hl.1 (Nat.le_of_ble_eq_true rfl) rfl dX7_line_30 h (fun r7 σ8 H locs hq w => ?_)
      obtain ⟨rfl, h⟩ := hq
      refine W.eq (g2 := F0 m 33 ls []) rfl ?_
      refine lv_iconst (v := 0) hx hb dX7_line_33 (by decide) ?_
      refine lv_istore_n (lv' := [(3, .int 0), (2, .ref (ad (1 + 71 + 5 * Int32.toNatClampNeg (σ3.1 0 1)))), (0, .ref (ad 0)), (1, .int x1)]) hx hb dX7_line_34 rfl hl (by decide) rfl (fun ls hl => ?_)
      exact h _ _ _ _ _ _ _ _ _ _ _ _ _ _ _ _ C w (lv_sub hl [2, 1, 0] rfl)
    · have h := h.2 c5
      refine lv_iconst (v := (-1)) hx hb dX7_line_15 (by decide) ?_
      exact tk_reti C w dX7_line_16 h
theorem e_X7_line (d : Nat) (x1 : Int32) {σ : tk_S} {Q : Int32 → tk_S → Prop} (h : g_X7_line d 0 [(0, aN 0), (1, aI x1)] σ Q) : p_X7_line d [aN 0, aI x1] σ Q := tk_entry (by decide) rfl (fun _ => Nat.le_of_ble_eq_true rfl) (fun _ => rfl) h
abbrev g_X7_ground (d pc : Nat) (vals : List (Nat × tk_V)) (σ : tk_S) (Q : Int32 → tk_S → Prop) : Prop := tk_G RX7 cX7_ground 7 (some .int) d pc vals σ (tk_i Q)
set_option maxHeartbeats 4000000 in
set_option maxRecDepth 100000 in
theorem b_X7_ground_0 (d : Nat) (x1 : Int32) (x2 : Int32) (x3 : Int32) (x4 : Int32) (x5 : Int32) (σ : tk_S) (Q : Int32 → tk_S → Prop) (h : p_X7_isPin d [aI x1, aI x2] σ (fun y3 σ2 => (y3 = 0 → Q (-1) σ2) ∧ (¬ y3 = 0 → p_X7_isPin d [aI x3, aI x4] σ2 (fun y7 σ6 => (y7 = 0 → Q (-1) σ6) ∧ (¬ y7 = 0 → (x3 < x1 → Q (-1) σ6) ∧ (¬ x3 < x1 → (x4 < x2 → Q (-1) σ6) ∧ (¬ x4 < x2 → p_X7_canAdd d [aN 0, aI x5] σ6 (fun y13 σ12 => (¬ y13 = 0 → vp_in (σ12.1 0 1) 12 ∧ (p_X3_begin d [aN (1 + 71 + 5 * Int32.toNatClampNeg (σ12.1 0 1)), aI 1, aI x5] σ12 (fun σ17 => p_X3_addPlace d [aN (1 + 71 + 5 * Int32.toNatClampNeg (σ12.1 0 1)), aI x1, aI x2] σ17 (fun σ19 => p_X3_addPlace d [aN (1 + 71 + 5 * Int32.toNatClampNeg (σ12.1 0 1)), aI x3, aI x4] σ19 (fun σ21 => p_X7_finish d [aN 0, aN (1 + 71 + 5 * Int32.toNatClampNeg (σ12.1 0 1))] σ21 (fun y24 σ23 => Q y24 σ23)))))) ∧ (y13 = 0 → Q (-1) σ12))))))))) : g_X7_ground (d + 1) 0 [(0, aN 0), (1, aI x1), (2, aI x2), (3, aI x3), (4, aI x4), (5, aI x5)] σ Q := by
  intro p l e s m args below meth c D cy ad base H locs ls C w hl
  obtain ⟨hx, hb, hml, hown, hts, hr, hlk⟩ := id C
  have hl : lv_has ls 7 [(0, .ref (ad 0)), (1, .int x1), (2, .int x2), (3, .int x3), (4, .int x4), (5, .int x5)] := hl
  refine lv_iload_n hx hb dX7_ground_0 rfl (lv_at hl 1 rfl) ?_
  refine lv_iload_n hx hb dX7_ground_1 rfl (lv_at hl 2 rfl) ?_
  refine tk_cS C w (as := [aI x1, aI x2]) (rest := []) mw_129 mw_2 mw_127 mw_128 hd_X7_isPin (by decide) hl.1 (Nat.le_of_ble_eq_true rfl) rfl dX7_ground_2 h (fun r1 σ2 H locs hq w => ?_)
  obtain ⟨y3, rfl, h⟩ := hq
  refine W.eq (g2 := F0 m 5 ls [.int y3]) rfl ?_
  refine lv_if_eq (tgt := 37) hx hb dX7_ground_5 (by decide) (fun c4 => ?_) (fun c4 => ?_)
  · have h := h.1 c4
    refine lv_iconst (v := (-1)) hx hb dX7_ground_37 (by decide) ?_
    exact tk_reti C w dX7_ground_38 h
  · have h := h.2 c4
    refine lv_iload_n hx hb dX7_ground_8 rfl (lv_at hl 3 rfl) ?_
    refine lv_iload hx hb dX7_ground_9 (lv_at hl 4 rfl) ?_
    refine tk_cS C w (as := [aI x3, aI x4]) (rest := []) mw_129 mw_2 mw_127 mw_128 hd_X7_isPin (by decide) hl.1 (Nat.le_of_ble_eq_true rfl) rfl dX7_ground_11 h (fun r5 σ6 H locs hq w => ?_)
    obtain ⟨y7, rfl, h⟩ := hq
    refine W.eq (g2 := F0 m 14 ls [.int y7]) rfl ?_
    refine lv_if_eq (tgt := 37) hx hb dX7_ground_14 (by decide) (fun c8 => ?_) (fun c8 => ?_)
    · have h := h.1 c8
      refine lv_iconst (v := (-1)) hx hb dX7_ground_37 (by decide) ?_
      exact tk_reti C w dX7_ground_38 h
    · have h := h.2 c8
      refine lv_iload_n hx hb dX7_ground_17 rfl (lv_at hl 1 rfl) ?_
      refine lv_iload_n hx hb dX7_ground_18 rfl (lv_at hl 3 rfl) ?_
      refine lv_icmp_gt (tgt := 37) hx hb dX7_ground_19 (by decide) (fun c9 => ?_) (fun c9 => ?_)
      · have h := h.1 c9
        refine lv_iconst (v := (-1)) hx hb dX7_ground_37 (by decide) ?_
        exact tk_reti C w dX7_ground_38 h
      · have h := h.2 c9
        refine lv_iload_n hx hb dX7_ground_22 rfl (lv_at hl 2 rfl) ?_
        refine lv_iload hx hb dX7_ground_23 (lv_at hl 4 rfl) ?_
        refine lv_icmp_gt (tgt := 37) hx hb dX7_ground_25 (by decide) (fun c10 => ?_) (fun c10 => ?_)
        · have h := h.1 c10
          refine lv_iconst (v := (-1)) hx hb dX7_ground_37 (by decide) ?_
          exact tk_reti C w dX7_ground_38 h
        · have h := h.2 c10
          refine lv_aload_n hx hb dX7_ground_28 rfl (lv_at hl 0 rfl) ?_
          refine lv_iload hx hb dX7_ground_29 (lv_at hl 5 rfl) ?_
          refine tk_cV C w (k := 0) rfl rfl (as := [aI x5]) (rest := []) mw_149 mw_2 mw_146 mw_147 mw_148 hd_X7_canAdd (by decide) hl.1 (Nat.le_of_ble_eq_true rfl) rfl dX7_ground_31 h (fun r11 σ12 H locs hq w => ?_)
          obtain ⟨y13, rfl, h⟩ := hq
          refine W.eq (g2 := F0 m 34 ls [.int y13]) rfl ?_
          refine lv_if_ne (tgt := 39) hx hb dX7_ground_34 (by decide) (fun c14 => ?_) (fun c14 => ?_)
          · have h := h.1 c14
            refine lv_aload_n hx hb dX7_ground_39 rfl (lv_at hl 0 rfl) ?_
            refine tk_get (k := 0) (v := .ref (ad 1)) hx hb hts hown w rfl rfl inlX7 0 (by decide) mw_13 rfl dX7_ground_40 ?_
            refine lv_aload_n hx hb dX7_ground_43 rfl (lv_at hl 0 rfl) ?_
            refine tk_get (k := 0) (v := .int (σ12.1 0 1)) hx hb hts hown w rfl rfl inlX7 1 (by decide) mw_145 rfl dX7_ground_44 ?_
            obtain ⟨hi15, h⟩ := h
            refine tk_aald (k := 1) (t := 0) (ty := .object "TouchSheet$Shape") hx hb w rfl (by decide) rfl rfl hi15 dX7_ground_47 ?_
            refine lv_astore (lv' := [(6, .ref (ad (1 + 71 + 5 * Int32.toNatClampNeg (σ12.1 0 1)))), (0, .ref (ad 0)), (1, .int x1), (2, .int x2), (3, .int x3), (4, .int x4), (5, .int x5)]) hx hb dX7_ground_48 hl (by decide) rfl (fun ls hl => ?_)
            refine lv_aload hx hb dX7_ground_50 (lv_at hl 0 rfl) ?_
            refine lv_iconst (v := 1) hx hb dX7_ground_52 (by decide) ?_
            refine lv_iload hx hb dX7_ground_53 (lv_at hl 6 rfl) ?_
            refine tk_cV C w (k := 1 + 71 + 5 * Int32.toNatClampNeg (σ12.1 0 1)) (tk_r1 hi15) rfl (as := [aI 1, aI x5]) (rest := []) mw_153 mw_48 mw_150 mw_151 mw_152 hd_X3_begin (by decide) hl.1 (Nat.le_of_ble_eq_true rfl) rfl dX7_ground_55 h (fun r16 σ17 H locs hq w => ?_)
            obtain ⟨rfl, h⟩ := hq
            refine W.eq (g2 := F0 m 58 ls []) rfl ?_
            refine lv_aload hx hb dX7_ground_58 (lv_at hl 0 rfl) ?_
            refine lv_iload_n hx hb dX7_ground_60 rfl (lv_at hl 2 rfl) ?_
            refine lv_iload_n hx hb dX7_ground_61 rfl (lv_at hl 3 rfl) ?_
            refine tk_cV C w (k := 1 + 71 + 5 * Int32.toNatClampNeg (σ12.1 0 1)) (tk_r1 hi15) rfl (as := [aI x1, aI x2]) (rest := []) mw_160 mw_48 mw_157 mw_158 mw_159 hd_X3_addPlace (by decide) hl.1 (Nat.le_of_ble_eq_true rfl) rfl dX7_ground_62 h (fun r18 σ19 H locs hq w => ?_)
            obtain ⟨rfl, h⟩ := hq
            refine W.eq (g2 := F0 m 65 ls []) rfl ?_
            refine lv_aload hx hb dX7_ground_65 (lv_at hl 0 rfl) ?_
            refine lv_iload_n hx hb dX7_ground_67 rfl (lv_at hl 4 rfl) ?_
            refine lv_iload hx hb dX7_ground_68 (lv_at hl 5 rfl) ?_
            refine tk_cV C w (k := 1 + 71 + 5 * Int32.toNatClampNeg (σ12.1 0 1)) (tk_r1 hi15) rfl (as := [aI x3, aI x4]) (rest := []) mw_160 mw_48 mw_157 mw_158 mw_159 hd_X3_addPlace (by decide) hl.1 (Nat.le_of_ble_eq_true rfl) rfl dX7_ground_70 h (fun r20 σ21 H locs hq w => ?_)
            obtain ⟨rfl, h⟩ := hq
            refine W.eq (g2 := F0 m 73 ls []) rfl ?_
            refine lv_aload_n hx hb dX7_ground_73 rfl (lv_at hl 1 rfl) ?_
            refine lv_aload hx hb dX7_ground_74 (lv_at hl 0 rfl) ?_
            refine tk_cV C w (k := 0) rfl rfl (as := [aN (1 + 71 + 5 * Int32.toNatClampNeg (σ12.1 0 1))]) (rest := []) mw_164 mw_2 mw_161 mw_162 mw_163 hd_X7_finish (by decide) hl.1 (Nat.le_of_ble_eq_true rfl) rfl dX7_ground_76 h (fun r22 σ23 H locs hq w => ?_)
            obtain ⟨y24, rfl, h⟩ := hq
            refine W.eq (g2 := F0 m 79 ls [.int y24]) rfl ?_
            exact tk_reti C w dX7_ground_79 h
          · have h := h.2 c14
            refine lv_iconst (v := (-1)) hx hb dX7_ground_37 (by decide) ?_
            exact tk_reti C w dX7_ground_38 h
theorem e_X7_ground (d : Nat) (x1 : Int32) (x2 : Int32) (x3 : Int32) (x4 : Int32) (x5 : Int32) {σ : tk_S} {Q : Int32 → tk_S → Prop} (h : g_X7_ground d 0 [(0, aN 0), (1, aI x1), (2, aI x2), (3, aI x3), (4, aI x4), (5, aI x5)] σ Q) : p_X7_ground d [aN 0, aI x1, aI x2, aI x3, aI x4, aI x5] σ Q := tk_entry (by decide) rfl (fun _ => Nat.le_of_ble_eq_true rfl) (fun _ => rfl) h
abbrev g_X7_mark (d pc : Nat) (vals : List (Nat × tk_V)) (σ : tk_S) (Q : Int32 → tk_S → Prop) : Prop := tk_G RX7 cX7_mark 5 (some .int) d pc vals σ (tk_i Q)
set_option maxHeartbeats 4000000 in
set_option maxRecDepth 100000 in
theorem b_X7_mark_0 (d : Nat) (x1 : Int32) (x2 : Int32) (x3 : Int32) (σ : tk_S) (Q : Int32 → tk_S → Prop) (h : p_X7_isPin d [aI x1, aI x2] σ (fun y3 σ2 => (y3 = 0 → Q (-1) σ2) ∧ (¬ y3 = 0 → p_X7_canAdd d [aN 0, aI x3] σ2 (fun y7 σ6 => (¬ y7 = 0 → vp_in (σ6.1 0 1) 12 ∧ (p_X3_begin d [aN (1 + 71 + 5 * Int32.toNatClampNeg (σ6.1 0 1)), aI 2, aI x3] σ6 (fun σ11 => p_X3_addPlace d [aN (1 + 71 + 5 * Int32.toNatClampNeg (σ6.1 0 1)), aI x1, aI x2] σ11 (fun σ13 => p_X7_finish d [aN 0, aN (1 + 71 + 5 * Int32.toNatClampNeg (σ6.1 0 1))] σ13 (fun y16 σ15 => Q y16 σ15))))) ∧ (y7 = 0 → Q (-1) σ6))))) : g_X7_mark (d + 1) 0 [(0, aN 0), (1, aI x1), (2, aI x2), (3, aI x3)] σ Q := by
  intro p l e s m args below meth c D cy ad base H locs ls C w hl
  obtain ⟨hx, hb, hml, hown, hts, hr, hlk⟩ := id C
  have hl : lv_has ls 5 [(0, .ref (ad 0)), (1, .int x1), (2, .int x2), (3, .int x3)] := hl
  refine lv_iload_n hx hb dX7_mark_0 rfl (lv_at hl 1 rfl) ?_
  refine lv_iload_n hx hb dX7_mark_1 rfl (lv_at hl 2 rfl) ?_
  refine tk_cS C w (as := [aI x1, aI x2]) (rest := []) mw_129 mw_2 mw_127 mw_128 hd_X7_isPin (by decide) hl.1 (Nat.le_of_ble_eq_true rfl) rfl dX7_mark_2 h (fun r1 σ2 H locs hq w => ?_)
  obtain ⟨y3, rfl, h⟩ := hq
  refine W.eq (g2 := F0 m 5 ls [.int y3]) rfl ?_
  refine lv_if_eq (tgt := 16) hx hb dX7_mark_5 (by decide) (fun c4 => ?_) (fun c4 => ?_)
  · have h := h.1 c4
    refine lv_iconst (v := (-1)) hx hb dX7_mark_16 (by decide) ?_
    exact tk_reti C w dX7_mark_17 h
  · have h := h.2 c4
    refine lv_aload_n hx hb dX7_mark_8 rfl (lv_at hl 0 rfl) ?_
    refine lv_iload_n hx hb dX7_mark_9 rfl (lv_at hl 3 rfl) ?_
    refine tk_cV C w (k := 0) rfl rfl (as := [aI x3]) (rest := []) mw_149 mw_2 mw_146 mw_147 mw_148 hd_X7_canAdd (by decide) hl.1 (Nat.le_of_ble_eq_true rfl) rfl dX7_mark_10 h (fun r5 σ6 H locs hq w => ?_)
    obtain ⟨y7, rfl, h⟩ := hq
    refine W.eq (g2 := F0 m 13 ls [.int y7]) rfl ?_
    refine lv_if_ne (tgt := 18) hx hb dX7_mark_13 (by decide) (fun c8 => ?_) (fun c8 => ?_)
    · have h := h.1 c8
      refine lv_aload_n hx hb dX7_mark_18 rfl (lv_at hl 0 rfl) ?_
      refine tk_get (k := 0) (v := .ref (ad 1)) hx hb hts hown w rfl rfl inlX7 0 (by decide) mw_13 rfl dX7_mark_19 ?_
      refine lv_aload_n hx hb dX7_mark_22 rfl (lv_at hl 0 rfl) ?_
      refine tk_get (k := 0) (v := .int (σ6.1 0 1)) hx hb hts hown w rfl rfl inlX7 1 (by decide) mw_145 rfl dX7_mark_23 ?_
      obtain ⟨hi9, h⟩ := h
      refine tk_aald (k := 1) (t := 0) (ty := .object "TouchSheet$Shape") hx hb w rfl (by decide) rfl rfl hi9 dX7_mark_26 ?_
      refine lv_astore (lv' := [(4, .ref (ad (1 + 71 + 5 * Int32.toNatClampNeg (σ6.1 0 1)))), (0, .ref (ad 0)), (1, .int x1), (2, .int x2), (3, .int x3)]) hx hb dX7_mark_27 hl (by decide) rfl (fun ls hl => ?_)
      refine lv_aload hx hb dX7_mark_29 (lv_at hl 0 rfl) ?_
      refine lv_iconst (v := 2) hx hb dX7_mark_31 (by decide) ?_
      refine lv_iload_n hx hb dX7_mark_32 rfl (lv_at hl 4 rfl) ?_
      refine tk_cV C w (k := 1 + 71 + 5 * Int32.toNatClampNeg (σ6.1 0 1)) (tk_r1 hi9) rfl (as := [aI 2, aI x3]) (rest := []) mw_153 mw_48 mw_150 mw_151 mw_152 hd_X3_begin (by decide) hl.1 (Nat.le_of_ble_eq_true rfl) rfl dX7_mark_33 h (fun r10 σ11 H locs hq w => ?_)
      obtain ⟨rfl, h⟩ := hq
      refine W.eq (g2 := F0 m 36 ls []) rfl ?_
      refine lv_aload hx hb dX7_mark_36 (lv_at hl 0 rfl) ?_
      refine lv_iload_n hx hb dX7_mark_38 rfl (lv_at hl 2 rfl) ?_
      refine lv_iload_n hx hb dX7_mark_39 rfl (lv_at hl 3 rfl) ?_
      refine tk_cV C w (k := 1 + 71 + 5 * Int32.toNatClampNeg (σ6.1 0 1)) (tk_r1 hi9) rfl (as := [aI x1, aI x2]) (rest := []) mw_160 mw_48 mw_157 mw_158 mw_159 hd_X3_addPlace (by decide) hl.1 (Nat.le_of_ble_eq_true rfl) rfl dX7_mark_40 h (fun r12 σ13 H locs hq w => ?_)
      obtain ⟨rfl, h⟩ := hq
      refine W.eq (g2 := F0 m 43 ls []) rfl ?_
      refine lv_aload_n hx hb dX7_mark_43 rfl (lv_at hl 1 rfl) ?_
      refine lv_aload hx hb dX7_mark_44 (lv_at hl 0 rfl) ?_
      refine tk_cV C w (k := 0) rfl rfl (as := [aN (1 + 71 + 5 * Int32.toNatClampNeg (σ6.1 0 1))]) (rest := []) mw_164 mw_2 mw_161 mw_162 mw_163 hd_X7_finish (by decide) hl.1 (Nat.le_of_ble_eq_true rfl) rfl dX7_mark_46 h (fun r14 σ15 H locs hq w => ?_)
      obtain ⟨y16, rfl, h⟩ := hq
      refine W.eq (g2 := F0 m 49 ls [.int y16]) rfl ?_
      exact tk_reti C w dX7_mark_49 h
    · have h := h.2 c8
      refine lv_iconst (v := (-1)) hx hb dX7_mark_16 (by decide) ?_
      exact tk_reti C w dX7_mark_17 h
theorem e_X7_mark (d : Nat) (x1 : Int32) (x2 : Int32) (x3 : Int32) {σ : tk_S} {Q : Int32 → tk_S → Prop} (h : g_X7_mark d 0 [(0, aN 0), (1, aI x1), (2, aI x2), (3, aI x3)] σ Q) : p_X7_mark d [aN 0, aI x1, aI x2, aI x3] σ Q := tk_entry (by decide) rfl (fun _ => Nat.le_of_ble_eq_true rfl) (fun _ => rfl) h
abbrev g_X7_undo (d pc : Nat) (vals : List (Nat × tk_V)) (σ : tk_S) (Q : Int32 → tk_S → Prop) : Prop := tk_G RX7 cX7_undo 2 (some .boolean) d pc vals σ (tk_i Q)
set_option maxHeartbeats 4000000 in
set_option maxRecDepth 100000 in
theorem b_X7_undo_31 (d : Nat) (x1 : Int32) (σ : tk_S) (Q : Int32 → tk_S → Prop) (h : ((σ.1 0 1) ≤ x1 → p_X7_forgetAnswers d [aN 0] σ (fun σ3 => Q 1 σ3)) ∧ (¬ (σ.1 0 1) ≤ x1 → vp_in x1 12 ∧ (vp_in x1 12 ∧ (g_X7_undo (d + 1) 31 [(0, aN 0), (1, aI (x1 + 1))] (tk_up σ 4 (Int32.toNatClampNeg x1) ((σ.1 4 (Int32.toNatClampNeg x1)) &&& (((1 : Int32) <<< ((σ.1 0 1) &&& 31)) ^^^ (-1)))) Q)))) : g_X7_undo (d + 1) 31 [(0, aN 0), (1, aI x1)] σ Q := by
  intro p l e s m args below meth c D cy ad base H locs ls C w hl
  obtain ⟨hx, hb, hml, hown, hts, hr, hlk⟩ := id C
  have hl : lv_has ls 2 [(0, .ref (ad 0)), (1, .int x1)] := hl
  refine lv_iload_n hx hb dX7_undo_31 rfl (lv_at hl 1 rfl) ?_
  refine lv_aload_n hx hb dX7_undo_32 rfl (lv_at hl 0 rfl) ?_
  refine tk_get (k := 0) (v := .int (σ.1 0 1)) hx hb hts hown w rfl rfl inlX7 1 (by decide) mw_145 rfl dX7_undo_33 ?_
  refine lv_icmp_ge (tgt := 62) hx hb dX7_undo_36 (by decide) (fun c1 => ?_) (fun c1 => ?_)
  · have h := h.1 c1
    refine lv_aload_n hx hb dX7_undo_62 rfl (lv_at hl 0 rfl) ?_
    refine tk_cV C w (k := 0) rfl rfl (as := []) (rest := []) mw_232 mw_2 mw_229 mw_230 mw_231 hd_X7_forgetAnswers (by decide) hl.1 (Nat.le_of_ble_eq_true rfl) rfl dX7_undo_63 h (fun r2 σ3 H locs hq w => ?_)
    obtain ⟨rfl, h⟩ := hq
    refine W.eq (g2 := F0 m 66 ls []) rfl ?_
    refine lv_iconst (v := 1) hx hb dX7_undo_66 (by decide) ?_
    exact tk_retz C w dX7_undo_67 rfl h
  · have h := h.2 c1
    refine lv_aload_n hx hb dX7_undo_39 rfl (lv_at hl 0 rfl) ?_
    refine tk_get (k := 0) (v := .ref (ad 4)) hx hb hts hown w rfl rfl inlX7 6 (by decide) mw_18 rfl dX7_undo_40 ?_
    refine lv_iload_n hx hb dX7_undo_43 rfl (lv_at hl 1 rfl) ?_
    refine lv_dup2_11 hx hb dX7_undo_44 rfl rfl ?_
    obtain ⟨hi4, h⟩ := h
    refine tk_iald (k := 4) hx hb w rfl hi4 dX7_undo_45 ?_
    refine lv_iconst (v := 1) hx hb dX7_undo_46 (by decide) ?_
    refine lv_aload_n hx hb dX7_undo_47 rfl (lv_at hl 0 rfl) ?_
    refine tk_get (k := 0) (v := .int (σ.1 0 1)) hx hb hts hown w rfl rfl inlX7 1 (by decide) mw_145 rfl dX7_undo_48 ?_
    refine lv_ishl hx hb dX7_undo_51 ?_
    refine lv_iconst (v := (-1)) hx hb dX7_undo_52 (by decide) ?_
    refine lv_ixor hx hb dX7_undo_53 ?_
    refine lv_iand hx hb dX7_undo_54 ?_
    obtain ⟨hi5, h⟩ := h
    refine tk_iast (k := 4) hx hb w rfl hi5 dX7_undo_55 (fun H locs w => ?_)
    refine lv_iinc (v := x1 + 1) (lv' := [(1, .int (x1 + 1)), (0, .ref (ad 0))]) hx hb dX7_undo_56 hl (k := 1) rfl rfl (by decide) rfl (fun ls hl => ?_)
    refine lv_goto (tgt := 31) hx hb dX7_undo_59 (by decide) ?_
    exact h _ _ _ _ _ _ _ _ _ _ _ _ _ _ _ _ C w (lv_sub hl [1, 0] rfl)
set_option maxHeartbeats 4000000 in
set_option maxRecDepth 100000 in
theorem b_X7_undo_0 (d : Nat)  (σ : tk_S) (Q : Int32 → tk_S → Prop) (h : (¬ (σ.1 0 1) = 0 → vp_in ((tk_up σ 0 1 ((σ.1 0 1) - 1)).1 0 1) 12 ∧ (∀ σ3 : tk_S, σ3 = tk_up (tk_up σ 0 1 ((σ.1 0 1) - 1)) 4 (Int32.toNatClampNeg ((tk_up σ 0 1 ((σ.1 0 1) - 1)).1 0 1)) 0 → g_X7_undo (d + 1) 31 [(0, aN 0), (1, aI 0)] σ3 Q)) ∧ ((σ.1 0 1) = 0 → Q 0 σ)) : g_X7_undo (d + 1) 0 [(0, aN 0)] σ Q := by
  intro p l e s m args below meth c D cy ad base H locs ls C w hl
  obtain ⟨hx, hb, hml, hown, hts, hr, hlk⟩ := id C
  have hl : lv_has ls 2 [(0, .ref (ad 0))] := hl
  refine lv_aload_n hx hb dX7_undo_0 rfl (lv_at hl 0 rfl) ?_
  refine tk_get (k := 0) (v := .int (σ.1 0 1)) hx hb hts hown w rfl rfl inlX7 1 (by decide) mw_145 rfl dX7_undo_1 ?_
  refine lv_if_ne (tgt := 9) hx hb dX7_undo_4 (by decide) (fun c1 => ?_) (fun c1 => ?_)
  · have h := h.1 c1
    refine lv_aload_n hx hb dX7_undo_9 rfl (lv_at hl 0 rfl) ?_
    refine lv_dup hx hb dX7_undo_10 rfl ?_
    refine tk_get (k := 0) (v := .int (σ.1 0 1)) hx hb hts hown w rfl rfl inlX7 1 (by decide) mw_145 rfl dX7_undo_11 ?_
    refine lv_iconst (v := 1) hx hb dX7_undo_14 (by decide) ?_
    refine lv_isub hx hb dX7_undo_15 ?_
    refine tk_puti (k := 0) (ty := .int) hx hb hts hown w rfl rfl inlX7 tyX7 tyX7_ok nmX7 1 (by decide) mw_145 rfl rfl (by decide +kernel) rfl rfl dX7_undo_16 (fun H locs w => ?_)
    refine lv_aload_n hx hb dX7_undo_19 rfl (lv_at hl 0 rfl) ?_
    refine tk_get (k := 0) (v := .ref (ad 4)) hx hb hts hown w rfl rfl inlX7 6 (by decide) mw_18 rfl dX7_undo_20 ?_
    refine lv_aload_n hx hb dX7_undo_23 rfl (lv_at hl 0 rfl) ?_
    refine tk_get (k := 0) (v := .int ((tk_up σ 0 1 ((σ.1 0 1) - 1)).1 0 1)) hx hb hts hown w rfl rfl inlX7 1 (by decide) mw_145 rfl dX7_undo_24 ?_
    refine lv_iconst (v := 0) hx hb dX7_undo_27 (by decide) ?_
    obtain ⟨hi2, h⟩ := h
    refine tk_iast (k := 4) hx hb w rfl hi2 dX7_undo_28 (fun H locs w => ?_)
    generalize e_σ3 : tk_up (tk_up σ 0 1 ((σ.1 0 1) - 1)) 4 (Int32.toNatClampNeg ((tk_up σ 0 1 ((σ.1 0 1) - 1)).1 0 1)) 0 = σ3 at w
    have h := h σ3 e_σ3.symm
    refine lv_iconst (v := 0) hx hb dX7_undo_29 (by decide) ?_
    refine lv_istore_n (lv' := [(1, .int 0), (0, .ref (ad 0))]) hx hb dX7_undo_30 rfl hl (by decide) rfl (fun ls hl => ?_)
    exact h _ _ _ _ _ _ _ _ _ _ _ _ _ _ _ _ C w (lv_sub hl [1, 0] rfl)
  · have h := h.2 c1
    refine lv_iconst (v := 0) hx hb dX7_undo_7 (by decide) ?_
    exact tk_retz C w dX7_undo_8 rfl h
theorem e_X7_undo (d : Nat)  {σ : tk_S} {Q : Int32 → tk_S → Prop} (h : g_X7_undo d 0 [(0, aN 0)] σ Q) : p_X7_undo d [aN 0] σ Q := tk_entry (by decide) rfl (fun _ => Nat.le_of_ble_eq_true rfl) (fun _ => rfl) h
abbrev g_X7_gap (d pc : Nat) (vals : List (Nat × tk_V)) (σ : tk_S) (Q : Int32 → tk_S → Prop) : Prop := tk_G RX7 cX7_gap 2 (some .boolean) d pc vals σ (tk_i Q)
set_option maxHeartbeats 4000000 in
set_option maxRecDepth 100000 in
theorem b_X7_gap_0 (d : Nat) (x1 : Int32) (σ : tk_S) (Q : Int32 → tk_S → Prop) (h : (x1 < 1 → Q 0 σ) ∧ (¬ x1 < 1 → (x1 ≤ 6 → p_X7_forgetAnswers d [aN 0] (tk_up σ 0 5 x1) (fun σ4 => Q 1 σ4)) ∧ (¬ x1 ≤ 6 → Q 0 σ))) : g_X7_gap (d + 1) 0 [(0, aN 0), (1, aI x1)] σ Q := by
  intro p l e s m args below meth c D cy ad base H locs ls C w hl
  obtain ⟨hx, hb, hml, hown, hts, hr, hlk⟩ := id C
  have hl : lv_has ls 2 [(0, .ref (ad 0)), (1, .int x1)] := hl
  refine lv_iload_n hx hb dX7_gap_0 rfl (lv_at hl 1 rfl) ?_
  refine lv_iconst (v := 1) hx hb dX7_gap_1 (by decide) ?_
  refine lv_icmp_lt (tgt := 11) hx hb dX7_gap_2 (by decide) (fun c1 => ?_) (fun c1 => ?_)
  · have h := h.1 c1
    refine lv_iconst (v := 0) hx hb dX7_gap_11 (by decide) ?_
    exact tk_retz C w dX7_gap_12 rfl h
  · have h := h.2 c1
    refine lv_iload_n hx hb dX7_gap_5 rfl (lv_at hl 1 rfl) ?_
    refine lv_bipush (v := 6) hx hb dX7_gap_6 (by decide) ?_
    refine lv_icmp_le (tgt := 13) hx hb dX7_gap_8 (by decide) (fun c2 => ?_) (fun c2 => ?_)
    · have h := h.1 c2
      refine lv_aload_n hx hb dX7_gap_13 rfl (lv_at hl 0 rfl) ?_
      refine lv_iload_n hx hb dX7_gap_14 rfl (lv_at hl 1 rfl) ?_
      refine tk_puti (k := 0) (ty := .int) hx hb hts hown w rfl rfl inlX7 tyX7 tyX7_ok nmX7 5 (by decide) mw_17 rfl rfl (by decide +kernel) rfl rfl dX7_gap_15 (fun H locs w => ?_)
      refine lv_aload_n hx hb dX7_gap_18 rfl (lv_at hl 0 rfl) ?_
      refine tk_cV C w (k := 0) rfl rfl (as := []) (rest := []) mw_232 mw_2 mw_229 mw_230 mw_231 hd_X7_forgetAnswers (by decide) hl.1 (Nat.le_of_ble_eq_true rfl) rfl dX7_gap_19 h (fun r3 σ4 H locs hq w => ?_)
      obtain ⟨rfl, h⟩ := hq
      refine W.eq (g2 := F0 m 22 ls []) rfl ?_
      refine lv_iconst (v := 1) hx hb dX7_gap_22 (by decide) ?_
      exact tk_retz C w dX7_gap_23 rfl h
    · have h := h.2 c2
      refine lv_iconst (v := 0) hx hb dX7_gap_11 (by decide) ?_
      exact tk_retz C w dX7_gap_12 rfl h
theorem e_X7_gap (d : Nat) (x1 : Int32) {σ : tk_S} {Q : Int32 → tk_S → Prop} (h : g_X7_gap d 0 [(0, aN 0), (1, aI x1)] σ Q) : p_X7_gap d [aN 0, aI x1] σ Q := tk_entry (by decide) rfl (fun _ => Nat.le_of_ble_eq_true rfl) (fun _ => rfl) h
abbrev g_X7_meet (d pc : Nat) (vals : List (Nat × tk_V)) (σ : tk_S) (Q : Int32 → tk_S → Prop) : Prop := tk_G RX7 cX7_meet 4 (some .boolean) d pc vals σ (tk_i Q)
set_option maxHeartbeats 4000000 in
set_option maxRecDepth 100000 in
theorem b_X7_meet_0 (d : Nat) (x1 : Int32) (x2 : Int32) (x3 : Int32) (σ : tk_S) (Q : Int32 → tk_S → Prop) (h : p_X7_isShape d [aN 0, aI x1] σ (fun y3 σ2 => (y3 = 0 → Q 0 σ2) ∧ (¬ y3 = 0 → p_X7_isShape d [aN 0, aI x2] σ2 (fun y7 σ6 => (y7 = 0 → Q 0 σ6) ∧ (¬ y7 = 0 → (x1 = x2 → Q 0 σ6) ∧ (¬ x1 = x2 → vp_in x1 12 ∧ (p_X7_has d [aI (σ6.1 4 (Int32.toNatClampNeg x1)), aI x2] σ6 (fun y13 σ12 => (¬ y13 = x3 → vp_in x1 12 ∧ (vp_in x1 12 ∧ (vp_in x2 12 ∧ (vp_in x2 12 ∧ (∀ σ19 : tk_S, σ19 = tk_up (tk_up σ12 4 (Int32.toNatClampNeg x1) ((σ12.1 4 (Int32.toNatClampNeg x1)) ^^^ ((1 : Int32) <<< (x2 &&& 31)))) 4 (Int32.toNatClampNeg x2) (((tk_up σ12 4 (Int32.toNatClampNeg x1) ((σ12.1 4 (Int32.toNatClampNeg x1)) ^^^ ((1 : Int32) <<< (x2 &&& 31)))).1 4 (Int32.toNatClampNeg x2)) ^^^ ((1 : Int32) <<< (x1 &&& 31))) → p_X7_forgetAnswers d [aN 0] σ19 (fun σ21 => Q 1 σ21)))))) ∧ (y13 = x3 → Q 0 σ12))))))))) : g_X7_meet (d + 1) 0 [(0, aN 0), (1, aI x1), (2, aI x2), (3, aI x3)] σ Q := by
  intro p l e s m args below meth c D cy ad base H locs ls C w hl
  obtain ⟨hx, hb, hml, hown, hts, hr, hlk⟩ := id C
  have hl : lv_has ls 4 [(0, .ref (ad 0)), (1, .int x1), (2, .int x2), (3, .int x3)] := hl
  refine lv_aload_n hx hb dX7_meet_0 rfl (lv_at hl 0 rfl) ?_
  refine lv_iload_n hx hb dX7_meet_1 rfl (lv_at hl 1 rfl) ?_
  refine tk_cV C w (k := 0) rfl rfl (as := [aI x1]) (rest := []) mw_306 mw_2 mw_303 mw_304 mw_305 hd_X7_isShape (by decide) hl.1 (Nat.le_of_ble_eq_true rfl) rfl dX7_meet_2 h (fun r1 σ2 H locs hq w => ?_)
  obtain ⟨y3, rfl, h⟩ := hq
  refine W.eq (g2 := F0 m 5 ls [.int y3]) rfl ?_
  refine lv_if_eq (tgt := 35) hx hb dX7_meet_5 (by decide) (fun c4 => ?_) (fun c4 => ?_)
  · have h := h.1 c4
    refine lv_iconst (v := 0) hx hb dX7_meet_35 (by decide) ?_
    exact tk_retz C w dX7_meet_36 rfl h
  · have h := h.2 c4
    refine lv_aload_n hx hb dX7_meet_8 rfl (lv_at hl 0 rfl) ?_
    refine lv_iload_n hx hb dX7_meet_9 rfl (lv_at hl 2 rfl) ?_
    refine tk_cV C w (k := 0) rfl rfl (as := [aI x2]) (rest := []) mw_306 mw_2 mw_303 mw_304 mw_305 hd_X7_isShape (by decide) hl.1 (Nat.le_of_ble_eq_true rfl) rfl dX7_meet_10 h (fun r5 σ6 H locs hq w => ?_)
    obtain ⟨y7, rfl, h⟩ := hq
    refine W.eq (g2 := F0 m 13 ls [.int y7]) rfl ?_
    refine lv_if_eq (tgt := 35) hx hb dX7_meet_13 (by decide) (fun c8 => ?_) (fun c8 => ?_)
    · have h := h.1 c8
      refine lv_iconst (v := 0) hx hb dX7_meet_35 (by decide) ?_
      exact tk_retz C w dX7_meet_36 rfl h
    · have h := h.2 c8
      refine lv_iload_n hx hb dX7_meet_16 rfl (lv_at hl 1 rfl) ?_
      refine lv_iload_n hx hb dX7_meet_17 rfl (lv_at hl 2 rfl) ?_
      refine lv_icmp_eq (tgt := 35) hx hb dX7_meet_18 (by decide) (fun c9 => ?_) (fun c9 => ?_)
      · have h := h.1 c9
        refine lv_iconst (v := 0) hx hb dX7_meet_35 (by decide) ?_
        exact tk_retz C w dX7_meet_36 rfl h
      · have h := h.2 c9
        refine lv_aload_n hx hb dX7_meet_21 rfl (lv_at hl 0 rfl) ?_
        refine tk_get (k := 0) (v := .ref (ad 4)) hx hb hts hown w rfl rfl inlX7 6 (by decide) mw_18 rfl dX7_meet_22 ?_
        refine lv_iload_n hx hb dX7_meet_25 rfl (lv_at hl 1 rfl) ?_
        obtain ⟨hi10, h⟩ := h
        refine tk_iald (k := 4) hx hb w rfl hi10 dX7_meet_26 ?_
        refine lv_iload_n hx hb dX7_meet_27 rfl (lv_at hl 2 rfl) ?_
        refine tk_cS C w (as := [aI (σ6.1 4 (Int32.toNatClampNeg x1)), aI x2]) (rest := []) mw_216 mw_2 mw_214 mw_215 hd_X7_has (by decide) hl.1 (Nat.le_of_ble_eq_true rfl) rfl dX7_meet_28 h (fun r11 σ12 H locs hq w => ?_)
        obtain ⟨y13, rfl, h⟩ := hq
        refine W.eq (g2 := F0 m 31 ls [.int y13]) rfl ?_
        refine lv_iload_n hx hb dX7_meet_31 rfl (lv_at hl 3 rfl) ?_
        refine lv_icmp_ne (tgt := 37) hx hb dX7_meet_32 (by decide) (fun c14 => ?_) (fun c14 => ?_)
        · have h := h.1 c14
          refine lv_aload_n hx hb dX7_meet_37 rfl (lv_at hl 0 rfl) ?_
          refine tk_get (k := 0) (v := .ref (ad 4)) hx hb hts hown w rfl rfl inlX7 6 (by decide) mw_18 rfl dX7_meet_38 ?_
          refine lv_iload_n hx hb dX7_meet_41 rfl (lv_at hl 1 rfl) ?_
          refine lv_dup2_11 hx hb dX7_meet_42 rfl rfl ?_
          obtain ⟨hi15, h⟩ := h
          refine tk_iald (k := 4) hx hb w rfl hi15 dX7_meet_43 ?_
          refine lv_iconst (v := 1) hx hb dX7_meet_44 (by decide) ?_
          refine lv_iload_n hx hb dX7_meet_45 rfl (lv_at hl 2 rfl) ?_
          refine lv_ishl hx hb dX7_meet_46 ?_
          refine lv_ixor hx hb dX7_meet_47 ?_
          obtain ⟨hi16, h⟩ := h
          refine tk_iast (k := 4) hx hb w rfl hi16 dX7_meet_48 (fun H locs w => ?_)
          refine lv_aload_n hx hb dX7_meet_49 rfl (lv_at hl 0 rfl) ?_
          refine tk_get (k := 0) (v := .ref (ad 4)) hx hb hts hown w rfl rfl inlX7 6 (by decide) mw_18 rfl dX7_meet_50 ?_
          refine lv_iload_n hx hb dX7_meet_53 rfl (lv_at hl 2 rfl) ?_
          refine lv_dup2_11 hx hb dX7_meet_54 rfl rfl ?_
          obtain ⟨hi17, h⟩ := h
          refine tk_iald (k := 4) hx hb w rfl hi17 dX7_meet_55 ?_
          refine lv_iconst (v := 1) hx hb dX7_meet_56 (by decide) ?_
          refine lv_iload_n hx hb dX7_meet_57 rfl (lv_at hl 1 rfl) ?_
          refine lv_ishl hx hb dX7_meet_58 ?_
          refine lv_ixor hx hb dX7_meet_59 ?_
          obtain ⟨hi18, h⟩ := h
          refine tk_iast (k := 4) hx hb w rfl hi18 dX7_meet_60 (fun H locs w => ?_)
          generalize e_σ19 : tk_up (tk_up σ12 4 (Int32.toNatClampNeg x1) ((σ12.1 4 (Int32.toNatClampNeg x1)) ^^^ ((1 : Int32) <<< (x2 &&& 31)))) 4 (Int32.toNatClampNeg x2) (((tk_up σ12 4 (Int32.toNatClampNeg x1) ((σ12.1 4 (Int32.toNatClampNeg x1)) ^^^ ((1 : Int32) <<< (x2 &&& 31)))).1 4 (Int32.toNatClampNeg x2)) ^^^ ((1 : Int32) <<< (x1 &&& 31))) = σ19 at w
          have h := h σ19 e_σ19.symm
          refine lv_aload_n hx hb dX7_meet_61 rfl (lv_at hl 0 rfl) ?_
          refine tk_cV C w (k := 0) rfl rfl (as := []) (rest := []) mw_232 mw_2 mw_229 mw_230 mw_231 hd_X7_forgetAnswers (by decide) hl.1 (Nat.le_of_ble_eq_true rfl) rfl dX7_meet_62 h (fun r20 σ21 H locs hq w => ?_)
          obtain ⟨rfl, h⟩ := hq
          refine W.eq (g2 := F0 m 65 ls []) rfl ?_
          refine lv_iconst (v := 1) hx hb dX7_meet_65 (by decide) ?_
          exact tk_retz C w dX7_meet_66 rfl h
        · have h := h.2 c14
          refine lv_iconst (v := 0) hx hb dX7_meet_35 (by decide) ?_
          exact tk_retz C w dX7_meet_36 rfl h
theorem e_X7_meet (d : Nat) (x1 : Int32) (x2 : Int32) (x3 : Int32) {σ : tk_S} {Q : Int32 → tk_S → Prop} (h : g_X7_meet d 0 [(0, aN 0), (1, aI x1), (2, aI x2), (3, aI x3)] σ Q) : p_X7_meet d [aN 0, aI x1, aI x2, aI x3] σ Q := tk_entry (by decide) rfl (fun _ => Nat.le_of_ble_eq_true rfl) (fun _ => rfl) h
abbrev g_X7_apart (d pc : Nat) (vals : List (Nat × tk_V)) (σ : tk_S) (Q : Int32 → tk_S → Prop) : Prop := tk_G RX7 cX7_apart 4 (some .boolean) d pc vals σ (tk_i Q)
set_option maxHeartbeats 4000000 in
set_option maxRecDepth 100000 in
theorem b_X7_apart_0 (d : Nat) (x1 : Int32) (x2 : Int32) (x3 : Int32) (σ : tk_S) (Q : Int32 → tk_S → Prop) (h : p_X7_isTexture d [aI x1] σ (fun y3 σ2 => (y3 = 0 → Q 0 σ2) ∧ (¬ y3 = 0 → p_X7_isTexture d [aI x2] σ2 (fun y7 σ6 => (y7 = 0 → Q 0 σ6) ∧ (¬ y7 = 0 → (x1 = x2 → Q 0 σ6) ∧ (¬ x1 = x2 → vp_in x1 4 ∧ (p_X7_has d [aI (σ6.1 31 (Int32.toNatClampNeg x1)), aI x2] σ6 (fun y13 σ12 => (¬ y13 = x3 → vp_in x1 4 ∧ (vp_in x1 4 ∧ (vp_in x2 4 ∧ (vp_in x2 4 ∧ (∀ σ19 : tk_S, σ19 = tk_up (tk_up σ12 31 (Int32.toNatClampNeg x1) ((σ12.1 31 (Int32.toNatClampNeg x1)) ^^^ ((1 : Int32) <<< (x2 &&& 31)))) 31 (Int32.toNatClampNeg x2) (((tk_up σ12 31 (Int32.toNatClampNeg x1) ((σ12.1 31 (Int32.toNatClampNeg x1)) ^^^ ((1 : Int32) <<< (x2 &&& 31)))).1 31 (Int32.toNatClampNeg x2)) ^^^ ((1 : Int32) <<< (x1 &&& 31))) → p_X7_forgetAnswers d [aN 0] σ19 (fun σ21 => Q 1 σ21)))))) ∧ (y13 = x3 → Q 0 σ12))))))))) : g_X7_apart (d + 1) 0 [(0, aN 0), (1, aI x1), (2, aI x2), (3, aI x3)] σ Q := by
  intro p l e s m args below meth c D cy ad base H locs ls C w hl
  obtain ⟨hx, hb, hml, hown, hts, hr, hlk⟩ := id C
  have hl : lv_has ls 4 [(0, .ref (ad 0)), (1, .int x1), (2, .int x2), (3, .int x3)] := hl
  refine lv_iload_n hx hb dX7_apart_0 rfl (lv_at hl 1 rfl) ?_
  refine tk_cS C w (as := [aI x1]) (rest := []) mw_322 mw_2 mw_320 mw_321 hd_X7_isTexture (by decide) hl.1 (Nat.le_of_ble_eq_true rfl) rfl dX7_apart_1 h (fun r1 σ2 H locs hq w => ?_)
  obtain ⟨y3, rfl, h⟩ := hq
  refine W.eq (g2 := F0 m 4 ls [.int y3]) rfl ?_
  refine lv_if_eq (tgt := 36) hx hb dX7_apart_4 (by decide) (fun c4 => ?_) (fun c4 => ?_)
  · have h := h.1 c4
    refine lv_iconst (v := 0) hx hb dX7_apart_36 (by decide) ?_
    exact tk_retz C w dX7_apart_37 rfl h
  · have h := h.2 c4
    refine lv_iload_n hx hb dX7_apart_7 rfl (lv_at hl 2 rfl) ?_
    refine tk_cS C w (as := [aI x2]) (rest := []) mw_322 mw_2 mw_320 mw_321 hd_X7_isTexture (by decide) hl.1 (Nat.le_of_ble_eq_true rfl) rfl dX7_apart_8 h (fun r5 σ6 H locs hq w => ?_)
    obtain ⟨y7, rfl, h⟩ := hq
    refine W.eq (g2 := F0 m 11 ls [.int y7]) rfl ?_
    refine lv_if_eq (tgt := 36) hx hb dX7_apart_11 (by decide) (fun c8 => ?_) (fun c8 => ?_)
    · have h := h.1 c8
      refine lv_iconst (v := 0) hx hb dX7_apart_36 (by decide) ?_
      exact tk_retz C w dX7_apart_37 rfl h
    · have h := h.2 c8
      refine lv_iload_n hx hb dX7_apart_14 rfl (lv_at hl 1 rfl) ?_
      refine lv_iload_n hx hb dX7_apart_15 rfl (lv_at hl 2 rfl) ?_
      refine lv_icmp_eq (tgt := 36) hx hb dX7_apart_16 (by decide) (fun c9 => ?_) (fun c9 => ?_)
      · have h := h.1 c9
        refine lv_iconst (v := 0) hx hb dX7_apart_36 (by decide) ?_
        exact tk_retz C w dX7_apart_37 rfl h
      · have h := h.2 c9
        refine lv_aload_n hx hb dX7_apart_19 rfl (lv_at hl 0 rfl) ?_
        refine tk_get (k := 0) (v := .ref (ad 30)) hx hb hts hown w rfl rfl inlX7 12 (by decide) mw_40 rfl dX7_apart_20 ?_
        refine tk_get (k := 30) (v := .ref (ad 31)) hx hb hts hown w rfl rfl inlX6 0 (by decide) mw_319 rfl dX7_apart_23 ?_
        refine lv_iload_n hx hb dX7_apart_26 rfl (lv_at hl 1 rfl) ?_
        obtain ⟨hi10, h⟩ := h
        refine tk_iald (k := 31) hx hb w rfl hi10 dX7_apart_27 ?_
        refine lv_iload_n hx hb dX7_apart_28 rfl (lv_at hl 2 rfl) ?_
        refine tk_cS C w (as := [aI (σ6.1 31 (Int32.toNatClampNeg x1)), aI x2]) (rest := []) mw_216 mw_2 mw_214 mw_215 hd_X7_has (by decide) hl.1 (Nat.le_of_ble_eq_true rfl) rfl dX7_apart_29 h (fun r11 σ12 H locs hq w => ?_)
        obtain ⟨y13, rfl, h⟩ := hq
        refine W.eq (g2 := F0 m 32 ls [.int y13]) rfl ?_
        refine lv_iload_n hx hb dX7_apart_32 rfl (lv_at hl 3 rfl) ?_
        refine lv_icmp_ne (tgt := 38) hx hb dX7_apart_33 (by decide) (fun c14 => ?_) (fun c14 => ?_)
        · have h := h.1 c14
          refine lv_aload_n hx hb dX7_apart_38 rfl (lv_at hl 0 rfl) ?_
          refine tk_get (k := 0) (v := .ref (ad 30)) hx hb hts hown w rfl rfl inlX7 12 (by decide) mw_40 rfl dX7_apart_39 ?_
          refine tk_get (k := 30) (v := .ref (ad 31)) hx hb hts hown w rfl rfl inlX6 0 (by decide) mw_319 rfl dX7_apart_42 ?_
          refine lv_iload_n hx hb dX7_apart_45 rfl (lv_at hl 1 rfl) ?_
          refine lv_dup2_11 hx hb dX7_apart_46 rfl rfl ?_
          obtain ⟨hi15, h⟩ := h
          refine tk_iald (k := 31) hx hb w rfl hi15 dX7_apart_47 ?_
          refine lv_iconst (v := 1) hx hb dX7_apart_48 (by decide) ?_
          refine lv_iload_n hx hb dX7_apart_49 rfl (lv_at hl 2 rfl) ?_
          refine lv_ishl hx hb dX7_apart_50 ?_
          refine lv_ixor hx hb dX7_apart_51 ?_
          obtain ⟨hi16, h⟩ := h
          refine tk_iast (k := 31) hx hb w rfl hi16 dX7_apart_52 (fun H locs w => ?_)
          refine lv_aload_n hx hb dX7_apart_53 rfl (lv_at hl 0 rfl) ?_
          refine tk_get (k := 0) (v := .ref (ad 30)) hx hb hts hown w rfl rfl inlX7 12 (by decide) mw_40 rfl dX7_apart_54 ?_
          refine tk_get (k := 30) (v := .ref (ad 31)) hx hb hts hown w rfl rfl inlX6 0 (by decide) mw_319 rfl dX7_apart_57 ?_
          refine lv_iload_n hx hb dX7_apart_60 rfl (lv_at hl 2 rfl) ?_
          refine lv_dup2_11 hx hb dX7_apart_61 rfl rfl ?_
          obtain ⟨hi17, h⟩ := h
          refine tk_iald (k := 31) hx hb w rfl hi17 dX7_apart_62 ?_
          refine lv_iconst (v := 1) hx hb dX7_apart_63 (by decide) ?_
          refine lv_iload_n hx hb dX7_apart_64 rfl (lv_at hl 1 rfl) ?_
          refine lv_ishl hx hb dX7_apart_65 ?_
          refine lv_ixor hx hb dX7_apart_66 ?_
          obtain ⟨hi18, h⟩ := h
          refine tk_iast (k := 31) hx hb w rfl hi18 dX7_apart_67 (fun H locs w => ?_)
          generalize e_σ19 : tk_up (tk_up σ12 31 (Int32.toNatClampNeg x1) ((σ12.1 31 (Int32.toNatClampNeg x1)) ^^^ ((1 : Int32) <<< (x2 &&& 31)))) 31 (Int32.toNatClampNeg x2) (((tk_up σ12 31 (Int32.toNatClampNeg x1) ((σ12.1 31 (Int32.toNatClampNeg x1)) ^^^ ((1 : Int32) <<< (x2 &&& 31)))).1 31 (Int32.toNatClampNeg x2)) ^^^ ((1 : Int32) <<< (x1 &&& 31))) = σ19 at w
          have h := h σ19 e_σ19.symm
          refine lv_aload_n hx hb dX7_apart_68 rfl (lv_at hl 0 rfl) ?_
          refine tk_cV C w (k := 0) rfl rfl (as := []) (rest := []) mw_232 mw_2 mw_229 mw_230 mw_231 hd_X7_forgetAnswers (by decide) hl.1 (Nat.le_of_ble_eq_true rfl) rfl dX7_apart_69 h (fun r20 σ21 H locs hq w => ?_)
          obtain ⟨rfl, h⟩ := hq
          refine W.eq (g2 := F0 m 72 ls []) rfl ?_
          refine lv_iconst (v := 1) hx hb dX7_apart_72 (by decide) ?_
          exact tk_retz C w dX7_apart_73 rfl h
        · have h := h.2 c14
          refine lv_iconst (v := 0) hx hb dX7_apart_36 (by decide) ?_
          exact tk_retz C w dX7_apart_37 rfl h
theorem e_X7_apart (d : Nat) (x1 : Int32) (x2 : Int32) (x3 : Int32) {σ : tk_S} {Q : Int32 → tk_S → Prop} (h : g_X7_apart d 0 [(0, aN 0), (1, aI x1), (2, aI x2), (3, aI x3)] σ Q) : p_X7_apart d [aN 0, aI x1, aI x2, aI x3] σ Q := tk_entry (by decide) rfl (fun _ => Nat.le_of_ble_eq_true rfl) (fun _ => rfl) h
abbrev g_X7_price (d pc : Nat) (vals : List (Nat × tk_V)) (σ : tk_S) (Q : Int32 → tk_S → Prop) : Prop := tk_G RX7 cX7_price 3 (some .boolean) d pc vals σ (tk_i Q)
set_option maxHeartbeats 4000000 in
set_option maxRecDepth 100000 in
theorem b_X7_price_0 (d : Nat) (x1 : Int32) (x2 : Int32) (σ : tk_S) (Q : Int32 → tk_S → Prop) (h : p_X7_isTexture d [aI x1] σ (fun y3 σ2 => (y3 = 0 → Q 0 σ2) ∧ (¬ y3 = 0 → (x2 < 0 → Q 0 σ2) ∧ (¬ x2 < 0 → (x2 ≤ 99 → vp_in x1 4 ∧ (p_X7_forgetAnswers d [aN 0] (tk_up σ2 32 (Int32.toNatClampNeg x1) x2) (fun σ9 => Q 1 σ9))) ∧ (¬ x2 ≤ 99 → Q 0 σ2))))) : g_X7_price (d + 1) 0 [(0, aN 0), (1, aI x1), (2, aI x2)] σ Q := by
  intro p l e s m args below meth c D cy ad base H locs ls C w hl
  obtain ⟨hx, hb, hml, hown, hts, hr, hlk⟩ := id C
  have hl : lv_has ls 3 [(0, .ref (ad 0)), (1, .int x1), (2, .int x2)] := hl
  refine lv_iload_n hx hb dX7_price_0 rfl (lv_at hl 1 rfl) ?_
  refine tk_cS C w (as := [aI x1]) (rest := []) mw_322 mw_2 mw_320 mw_321 hd_X7_isTexture (by decide) hl.1 (Nat.le_of_ble_eq_true rfl) rfl dX7_price_1 h (fun r1 σ2 H locs hq w => ?_)
  obtain ⟨y3, rfl, h⟩ := hq
  refine W.eq (g2 := F0 m 4 ls [.int y3]) rfl ?_
  refine lv_if_eq (tgt := 17) hx hb dX7_price_4 (by decide) (fun c4 => ?_) (fun c4 => ?_)
  · have h := h.1 c4
    refine lv_iconst (v := 0) hx hb dX7_price_17 (by decide) ?_
    exact tk_retz C w dX7_price_18 rfl h
  · have h := h.2 c4
    refine lv_iload_n hx hb dX7_price_7 rfl (lv_at hl 2 rfl) ?_
    refine lv_if_lt (tgt := 17) hx hb dX7_price_8 (by decide) (fun c5 => ?_) (fun c5 => ?_)
    · have h := h.1 c5
      refine lv_iconst (v := 0) hx hb dX7_price_17 (by decide) ?_
      exact tk_retz C w dX7_price_18 rfl h
    · have h := h.2 c5
      refine lv_iload_n hx hb dX7_price_11 rfl (lv_at hl 2 rfl) ?_
      refine lv_bipush (v := 99) hx hb dX7_price_12 (by decide) ?_
      refine lv_icmp_le (tgt := 19) hx hb dX7_price_14 (by decide) (fun c6 => ?_) (fun c6 => ?_)
      · have h := h.1 c6
        refine lv_aload_n hx hb dX7_price_19 rfl (lv_at hl 0 rfl) ?_
        refine tk_get (k := 0) (v := .ref (ad 30)) hx hb hts hown w rfl rfl inlX7 12 (by decide) mw_40 rfl dX7_price_20 ?_
        refine tk_get (k := 30) (v := .ref (ad 32)) hx hb hts hown w rfl rfl inlX6 1 (by decide) mw_334 rfl dX7_price_23 ?_
        refine lv_iload_n hx hb dX7_price_26 rfl (lv_at hl 1 rfl) ?_
        refine lv_iload_n hx hb dX7_price_27 rfl (lv_at hl 2 rfl) ?_
        obtain ⟨hi7, h⟩ := h
        refine tk_iast (k := 32) hx hb w rfl hi7 dX7_price_28 (fun H locs w => ?_)
        refine lv_aload_n hx hb dX7_price_29 rfl (lv_at hl 0 rfl) ?_
        refine tk_cV C w (k := 0) rfl rfl (as := []) (rest := []) mw_232 mw_2 mw_229 mw_230 mw_231 hd_X7_forgetAnswers (by decide) hl.1 (Nat.le_of_ble_eq_true rfl) rfl dX7_price_30 h (fun r8 σ9 H locs hq w => ?_)
        obtain ⟨rfl, h⟩ := hq
        refine W.eq (g2 := F0 m 33 ls []) rfl ?_
        refine lv_iconst (v := 1) hx hb dX7_price_33 (by decide) ?_
        exact tk_retz C w dX7_price_34 rfl h
      · have h := h.2 c6
        refine lv_iconst (v := 0) hx hb dX7_price_17 (by decide) ?_
        exact tk_retz C w dX7_price_18 rfl h
theorem e_X7_price (d : Nat) (x1 : Int32) (x2 : Int32) {σ : tk_S} {Q : Int32 → tk_S → Prop} (h : g_X7_price d 0 [(0, aN 0), (1, aI x1), (2, aI x2)] σ Q) : p_X7_price d [aN 0, aI x1, aI x2] σ Q := tk_entry (by decide) rfl (fun _ => Nat.le_of_ble_eq_true rfl) (fun _ => rfl) h
abbrev g_X7_look (d pc : Nat) (vals : List (Nat × tk_V)) (σ : tk_S) (Q : Int32 → tk_S → Prop) : Prop := tk_G RX7 cX7_look 2 (some .int) d pc vals σ (tk_i Q)
set_option maxHeartbeats 4000000 in
set_option maxRecDepth 100000 in
theorem b_X7_look_0 (d : Nat) (x1 : Int32) (σ : tk_S) (Q : Int32 → tk_S → Prop) (h : (x1 = 0 → Q (σ.1 0 1) σ) ∧ (x1 = 1 → Q (σ.1 0 4) σ) ∧ (x1 = 2 → Q (σ.1 0 5) σ) ∧ (¬ x1 = 0 → ¬ x1 = 1 → ¬ x1 = 2 → Q (-1) σ)) : g_X7_look d 0 [(0, aN 0), (1, aI x1)] σ Q := by
  intro p l e s m args below meth c D cy ad base H locs ls C w hl
  obtain ⟨hx, hb, hml, hown, hts, hr, hlk⟩ := id C
  have hl : lv_has ls 2 [(0, .ref (ad 0)), (1, .int x1)] := hl
  refine lv_iload_n hx hb dX7_look_0 rfl (lv_at hl 1 rfl) ?_
  by_cases c1 : x1 = 0
  · have h := h.1 c1
    refine lv_tableIn (off := 27) (tgt := 28) hx hb dX7_look_1 (by rw [c1]; decide) (by rw [c1]; decide) (by rw [c1]; rfl) (by decide) ?_
    refine lv_aload_n hx hb dX7_look_28 rfl (lv_at hl 0 rfl) ?_
    refine tk_get (k := 0) (v := .int (σ.1 0 1)) hx hb hts hown w rfl rfl inlX7 1 (by decide) mw_145 rfl dX7_look_29 ?_
    exact tk_reti C w dX7_look_32 h
  · have h := h.2
    by_cases c2 : x1 = 1
    · have h := h.1 c2
      refine lv_tableIn (off := 32) (tgt := 33) hx hb dX7_look_1 (by rw [c2]; decide) (by rw [c2]; decide) (by rw [c2]; rfl) (by decide) ?_
      refine lv_aload_n hx hb dX7_look_33 rfl (lv_at hl 0 rfl) ?_
      refine tk_get (k := 0) (v := .int (σ.1 0 4)) hx hb hts hown w rfl rfl inlX7 4 (by decide) mw_126 rfl dX7_look_34 ?_
      exact tk_reti C w dX7_look_37 h
    · have h := h.2
      by_cases c3 : x1 = 2
      · have h := h.1 c3
        refine lv_tableIn (off := 37) (tgt := 38) hx hb dX7_look_1 (by rw [c3]; decide) (by rw [c3]; decide) (by rw [c3]; rfl) (by decide) ?_
        refine lv_aload_n hx hb dX7_look_38 rfl (lv_at hl 0 rfl) ?_
        refine tk_get (k := 0) (v := .int (σ.1 0 5)) hx hb hts hown w rfl rfl inlX7 5 (by decide) mw_17 rfl dX7_look_39 ?_
        exact tk_reti C w dX7_look_42 h
      · have h := h.2
        have h := h c1
        have h := h c2
        have h := h c3
        refine lv_tableOut (tgt := 43) hx hb dX7_look_1 (by have := lv_neT c1 (a := 0) rfl; have := lv_neT c2 (a := 1) rfl; have := lv_neT c3 (a := 2) rfl; omega) (by decide) ?_
        refine lv_iconst (v := (-1)) hx hb dX7_look_43 (by decide) ?_
        exact tk_reti C w dX7_look_44 h
theorem e_X7_look (d : Nat) (x1 : Int32) {σ : tk_S} {Q : Int32 → tk_S → Prop} (h : g_X7_look d 0 [(0, aN 0), (1, aI x1)] σ Q) : p_X7_look d [aN 0, aI x1] σ Q := tk_entry (by decide) rfl (fun _ => Nat.le_of_ble_eq_true rfl) (fun _ => rfl) h
abbrev g_X7_of (d pc : Nat) (vals : List (Nat × tk_V)) (σ : tk_S) (Q : Int32 → tk_S → Prop) : Prop := tk_G RX7 cX7_of 4 (some .int) d pc vals σ (tk_i Q)
set_option maxHeartbeats 4000000 in
set_option maxRecDepth 100000 in
theorem b_X7_of_0 (d : Nat) (x1 : Int32) (x2 : Int32) (σ : tk_S) (Q : Int32 → tk_S → Prop) (h : p_X7_isShape d [aN 0, aI x1] σ (fun y3 σ2 => (¬ y3 = 0 → vp_in x1 12 ∧ ((x2 = 0 → Q (σ2.1 (1 + 71 + 5 * Int32.toNatClampNeg x1) 0) σ2) ∧ (x2 = 1 → Q (σ2.1 (1 + 71 + 5 * Int32.toNatClampNeg x1) 1) σ2) ∧ (x2 = 2 → p_X2_size d [aN ((1 + 71 + 5 * Int32.toNatClampNeg x1) + 3)] σ2 (fun y11 σ10 => Q y11 σ10)) ∧ (x2 = 3 → (¬ (σ2.1 (1 + 71 + 5 * Int32.toNatClampNeg x1) 0) = 0 → Q 0 σ2) ∧ ((σ2.1 (1 + 71 + 5 * Int32.toNatClampNeg x1) 0) = 0 → Q (σ2.1 (1 + 71 + 5 * Int32.toNatClampNeg x1) 2) σ2)) ∧ (¬ x2 = 0 → ¬ x2 = 1 → ¬ x2 = 2 → ¬ x2 = 3 → (10 ≤ x2 → p_X3_coordinate d [aN (1 + 71 + 5 * Int32.toNatClampNeg x1), aI (x2 - 10)] σ2 (fun y17 σ16 => Q y17 σ16)) ∧ (¬ 10 ≤ x2 → Q (-1) σ2)))) ∧ (y3 = 0 → Q (-1) σ2))) : g_X7_of (d + 1) 0 [(0, aN 0), (1, aI x1), (2, aI x2)] σ Q := by
  intro p l e s m args below meth c D cy ad base H locs ls C w hl
  obtain ⟨hx, hb, hml, hown, hts, hr, hlk⟩ := id C
  have hl : lv_has ls 4 [(0, .ref (ad 0)), (1, .int x1), (2, .int x2)] := hl
  refine lv_aload_n hx hb dX7_of_0 rfl (lv_at hl 0 rfl) ?_
  refine lv_iload_n hx hb dX7_of_1 rfl (lv_at hl 1 rfl) ?_
  refine tk_cV C w (k := 0) rfl rfl (as := [aI x1]) (rest := []) mw_306 mw_2 mw_303 mw_304 mw_305 hd_X7_isShape (by decide) hl.1 (Nat.le_of_ble_eq_true rfl) rfl dX7_of_2 h (fun r1 σ2 H locs hq w => ?_)
  obtain ⟨y3, rfl, h⟩ := hq
  refine W.eq (g2 := F0 m 5 ls [.int y3]) rfl ?_
  refine lv_if_ne (tgt := 10) hx hb dX7_of_5 (by decide) (fun c4 => ?_) (fun c4 => ?_)
  · have h := h.1 c4
    refine lv_aload_n hx hb dX7_of_10 rfl (lv_at hl 0 rfl) ?_
    refine tk_get (k := 0) (v := .ref (ad 1)) hx hb hts hown w rfl rfl inlX7 0 (by decide) mw_13 rfl dX7_of_11 ?_
    refine lv_iload_n hx hb dX7_of_14 rfl (lv_at hl 1 rfl) ?_
    obtain ⟨hi5, h⟩ := h
    refine tk_aald (k := 1) (t := 0) (ty := .object "TouchSheet$Shape") hx hb w rfl (by decide) rfl rfl hi5 dX7_of_15 ?_
    refine lv_astore_n (lv' := [(3, .ref (ad (1 + 71 + 5 * Int32.toNatClampNeg x1))), (0, .ref (ad 0)), (1, .int x1), (2, .int x2)]) hx hb dX7_of_16 rfl hl (by decide) rfl (fun ls hl => ?_)
    refine lv_iload_n hx hb dX7_of_17 rfl (lv_at hl 3 rfl) ?_
    by_cases c6 : x2 = 0
    · have h := h.1 c6
      refine lv_tableIn (off := 30) (tgt := 48) hx hb dX7_of_18 (by rw [c6]; decide) (by rw [c6]; decide) (by rw [c6]; rfl) (by decide) ?_
      refine lv_aload_n hx hb dX7_of_48 rfl (lv_at hl 0 rfl) ?_
      refine tk_get (k := 1 + 71 + 5 * Int32.toNatClampNeg x1) (v := .int (σ2.1 (1 + 71 + 5 * Int32.toNatClampNeg x1) 0)) hx hb hts hown w (tk_r1 hi5) rfl inlX3 0 (by decide) mw_351 rfl dX7_of_49 ?_
      exact tk_reti C w dX7_of_52 h
    · have h := h.2
      by_cases c7 : x2 = 1
      · have h := h.1 c7
        refine lv_tableIn (off := 35) (tgt := 53) hx hb dX7_of_18 (by rw [c7]; decide) (by rw [c7]; decide) (by rw [c7]; rfl) (by decide) ?_
        refine lv_aload_n hx hb dX7_of_53 rfl (lv_at hl 0 rfl) ?_
        refine tk_get (k := 1 + 71 + 5 * Int32.toNatClampNeg x1) (v := .int (σ2.1 (1 + 71 + 5 * Int32.toNatClampNeg x1) 1)) hx hb hts hown w (tk_r1 hi5) rfl inlX3 1 (by decide) mw_352 rfl dX7_of_54 ?_
        exact tk_reti C w dX7_of_57 h
      · have h := h.2
        by_cases c8 : x2 = 2
        · have h := h.1 c8
          refine lv_tableIn (off := 40) (tgt := 58) hx hb dX7_of_18 (by rw [c8]; decide) (by rw [c8]; decide) (by rw [c8]; rfl) (by decide) ?_
          refine lv_aload_n hx hb dX7_of_58 rfl (lv_at hl 0 rfl) ?_
          refine tk_get (k := 1 + 71 + 5 * Int32.toNatClampNeg x1) (v := .ref (ad ((1 + 71 + 5 * Int32.toNatClampNeg x1) + 3))) hx hb hts hown w (tk_r1 hi5) rfl inlX3 5 (by decide) mw_209 rfl dX7_of_59 ?_
          refine tk_cV C w (k := (1 + 71 + 5 * Int32.toNatClampNeg x1) + 3) (tk_s3 (tk_r1 hi5)) rfl (as := []) (rest := []) mw_357 mw_23 mw_354 mw_355 mw_356 hd_X2_size (by decide) hl.1 (Nat.le_of_ble_eq_true rfl) rfl dX7_of_62 h (fun r9 σ10 H locs hq w => ?_)
          obtain ⟨y11, rfl, h⟩ := hq
          refine W.eq (g2 := F0 m 65 ls [.int y11]) rfl ?_
          exact tk_reti C w dX7_of_65 h
        · have h := h.2
          by_cases c12 : x2 = 3
          · have h := h.1 c12
            refine lv_tableIn (off := 48) (tgt := 66) hx hb dX7_of_18 (by rw [c12]; decide) (by rw [c12]; decide) (by rw [c12]; rfl) (by decide) ?_
            refine lv_aload_n hx hb dX7_of_66 rfl (lv_at hl 0 rfl) ?_
            refine tk_get (k := 1 + 71 + 5 * Int32.toNatClampNeg x1) (v := .int (σ2.1 (1 + 71 + 5 * Int32.toNatClampNeg x1) 0)) hx hb hts hown w (tk_r1 hi5) rfl inlX3 0 (by decide) mw_351 rfl dX7_of_67 ?_
            refine lv_if_ne (tgt := 80) hx hb dX7_of_70 (by decide) (fun c13 => ?_) (fun c13 => ?_)
            · have h := h.1 c13
              refine lv_iconst (v := 0) hx hb dX7_of_80 (by decide) ?_
              exact tk_reti C w dX7_of_81 h
            · have h := h.2 c13
              refine lv_aload_n hx hb dX7_of_73 rfl (lv_at hl 0 rfl) ?_
              refine tk_get (k := 1 + 71 + 5 * Int32.toNatClampNeg x1) (v := .int (σ2.1 (1 + 71 + 5 * Int32.toNatClampNeg x1) 2)) hx hb hts hown w (tk_r1 hi5) rfl inlX3 2 (by decide) mw_353 rfl dX7_of_74 ?_
              refine lv_goto (tgt := 81) hx hb dX7_of_77 (by decide) ?_
              exact tk_reti C w dX7_of_81 h
          · have h := h.2
            have h := h c6
            have h := h c7
            have h := h c8
            have h := h c12
            refine lv_tableOut (tgt := 82) hx hb dX7_of_18 (by have := lv_neT c6 (a := 0) rfl; have := lv_neT c7 (a := 1) rfl; have := lv_neT c8 (a := 2) rfl; have := lv_neT c12 (a := 3) rfl; omega) (by decide) ?_
            refine lv_iload_n hx hb dX7_of_82 rfl (lv_at hl 3 rfl) ?_
            refine lv_bipush (v := 10) hx hb dX7_of_83 (by decide) ?_
            refine lv_icmp_ge (tgt := 92) hx hb dX7_of_85 (by decide) (fun c14 => ?_) (fun c14 => ?_)
            · have h := h.1 c14
              refine lv_aload_n hx hb dX7_of_92 rfl (lv_at hl 0 rfl) ?_
              refine lv_iload_n hx hb dX7_of_93 rfl (lv_at hl 3 rfl) ?_
              refine lv_bipush (v := 10) hx hb dX7_of_94 (by decide) ?_
              refine lv_isub hx hb dX7_of_96 ?_
              refine tk_cV C w (k := 1 + 71 + 5 * Int32.toNatClampNeg x1) (tk_r1 hi5) rfl (as := [aI (x2 - 10)]) (rest := []) mw_368 mw_48 mw_365 mw_366 mw_367 hd_X3_coordinate (by decide) hl.1 (Nat.le_of_ble_eq_true rfl) rfl dX7_of_97 h (fun r15 σ16 H locs hq w => ?_)
              obtain ⟨y17, rfl, h⟩ := hq
              refine W.eq (g2 := F0 m 100 ls [.int y17]) rfl ?_
              exact tk_reti C w dX7_of_100 h
            · have h := h.2 c14
              refine lv_iconst (v := (-1)) hx hb dX7_of_88 (by decide) ?_
              refine lv_goto (tgt := 100) hx hb dX7_of_89 (by decide) ?_
              exact tk_reti C w dX7_of_100 h
  · have h := h.2 c4
    refine lv_iconst (v := (-1)) hx hb dX7_of_8 (by decide) ?_
    exact tk_reti C w dX7_of_9 h
theorem e_X7_of (d : Nat) (x1 : Int32) (x2 : Int32) {σ : tk_S} {Q : Int32 → tk_S → Prop} (h : g_X7_of d 0 [(0, aN 0), (1, aI x1), (2, aI x2)] σ Q) : p_X7_of d [aN 0, aI x1, aI x2] σ Q := tk_entry (by decide) rfl (fun _ => Nat.le_of_ble_eq_true rfl) (fun _ => rfl) h
abbrev g_X7_pin (d pc : Nat) (vals : List (Nat × tk_V)) (σ : tk_S) (Q : Int32 → tk_S → Prop) : Prop := tk_G RX7 cX7_pin 4 (some .int) d pc vals σ (tk_i Q)
set_option maxHeartbeats 4000000 in
set_option maxRecDepth 100000 in
theorem b_X7_pin_0 (d : Nat) (x1 : Int32) (x2 : Int32) (x3 : Int32) (σ : tk_S) (Q : Int32 → tk_S → Prop) (h : p_X7_isShape d [aN 0, aI x1] σ (fun y3 σ2 => (y3 = 0 → Q (-1) σ2) ∧ (¬ y3 = 0 → p_X7_isPin d [aI x2, aI x3] σ2 (fun y7 σ6 => (¬ y7 = 0 → vp_in x1 12 ∧ (p_X2_holds d [aN ((1 + 71 + 5 * Int32.toNatClampNeg x1) + 3), aI x2, aI x3] σ6 (fun y12 σ11 => (y12 = 0 → Q 0 σ11) ∧ (¬ y12 = 0 → Q 1 σ11)))) ∧ (y7 = 0 → Q (-1) σ6))))) : g_X7_pin (d + 1) 0 [(0, aN 0), (1, aI x1), (2, aI x2), (3, aI x3)] σ Q := by
  intro p l e s m args below meth c D cy ad base H locs ls C w hl
  obtain ⟨hx, hb, hml, hown, hts, hr, hlk⟩ := id C
  have hl : lv_has ls 4 [(0, .ref (ad 0)), (1, .int x1), (2, .int x2), (3, .int x3)] := hl
  refine lv_aload_n hx hb dX7_pin_0 rfl (lv_at hl 0 rfl) ?_
  refine lv_iload_n hx hb dX7_pin_1 rfl (lv_at hl 1 rfl) ?_
  refine tk_cV C w (k := 0) rfl rfl (as := [aI x1]) (rest := []) mw_306 mw_2 mw_303 mw_304 mw_305 hd_X7_isShape (by decide) hl.1 (Nat.le_of_ble_eq_true rfl) rfl dX7_pin_2 h (fun r1 σ2 H locs hq w => ?_)
  obtain ⟨y3, rfl, h⟩ := hq
  refine W.eq (g2 := F0 m 5 ls [.int y3]) rfl ?_
  refine lv_if_eq (tgt := 16) hx hb dX7_pin_5 (by decide) (fun c4 => ?_) (fun c4 => ?_)
  · have h := h.1 c4
    refine lv_iconst (v := (-1)) hx hb dX7_pin_16 (by decide) ?_
    exact tk_reti C w dX7_pin_17 h
  · have h := h.2 c4
    refine lv_iload_n hx hb dX7_pin_8 rfl (lv_at hl 2 rfl) ?_
    refine lv_iload_n hx hb dX7_pin_9 rfl (lv_at hl 3 rfl) ?_
    refine tk_cS C w (as := [aI x2, aI x3]) (rest := []) mw_129 mw_2 mw_127 mw_128 hd_X7_isPin (by decide) hl.1 (Nat.le_of_ble_eq_true rfl) rfl dX7_pin_10 h (fun r5 σ6 H locs hq w => ?_)
    obtain ⟨y7, rfl, h⟩ := hq
    refine W.eq (g2 := F0 m 13 ls [.int y7]) rfl ?_
    refine lv_if_ne (tgt := 18) hx hb dX7_pin_13 (by decide) (fun c8 => ?_) (fun c8 => ?_)
    · have h := h.1 c8
      refine lv_aload_n hx hb dX7_pin_18 rfl (lv_at hl 0 rfl) ?_
      refine tk_get (k := 0) (v := .ref (ad 1)) hx hb hts hown w rfl rfl inlX7 0 (by decide) mw_13 rfl dX7_pin_19 ?_
      refine lv_iload_n hx hb dX7_pin_22 rfl (lv_at hl 1 rfl) ?_
      obtain ⟨hi9, h⟩ := h
      refine tk_aald (k := 1) (t := 0) (ty := .object "TouchSheet$Shape") hx hb w rfl (by decide) rfl rfl hi9 dX7_pin_23 ?_
      refine tk_get (k := 1 + 71 + 5 * Int32.toNatClampNeg x1) (v := .ref (ad ((1 + 71 + 5 * Int32.toNatClampNeg x1) + 3))) hx hb hts hown w (tk_r1 hi9) rfl inlX3 5 (by decide) mw_209 rfl dX7_pin_24 ?_
      refine lv_iload_n hx hb dX7_pin_27 rfl (lv_at hl 2 rfl) ?_
      refine lv_iload_n hx hb dX7_pin_28 rfl (lv_at hl 3 rfl) ?_
      refine tk_cV C w (k := (1 + 71 + 5 * Int32.toNatClampNeg x1) + 3) (tk_s3 (tk_r1 hi9)) rfl (as := [aI x2, aI x3]) (rest := []) mw_380 mw_23 mw_377 mw_378 mw_379 hd_X2_holds (by decide) hl.1 (Nat.le_of_ble_eq_true rfl) rfl dX7_pin_29 h (fun r10 σ11 H locs hq w => ?_)
      obtain ⟨y12, rfl, h⟩ := hq
      refine W.eq (g2 := F0 m 32 ls [.int y12]) rfl ?_
      refine lv_if_eq (tgt := 39) hx hb dX7_pin_32 (by decide) (fun c13 => ?_) (fun c13 => ?_)
      · have h := h.1 c13
        refine lv_iconst (v := 0) hx hb dX7_pin_39 (by decide) ?_
        exact tk_reti C w dX7_pin_40 h
      · have h := h.2 c13
        refine lv_iconst (v := 1) hx hb dX7_pin_35 (by decide) ?_
        refine lv_goto (tgt := 40) hx hb dX7_pin_36 (by decide) ?_
        exact tk_reti C w dX7_pin_40 h
    · have h := h.2 c8
      refine lv_iconst (v := (-1)) hx hb dX7_pin_16 (by decide) ?_
      exact tk_reti C w dX7_pin_17 h
theorem e_X7_pin (d : Nat) (x1 : Int32) (x2 : Int32) (x3 : Int32) {σ : tk_S} {Q : Int32 → tk_S → Prop} (h : g_X7_pin d 0 [(0, aN 0), (1, aI x1), (2, aI x2), (3, aI x3)] σ Q) : p_X7_pin d [aN 0, aI x1, aI x2, aI x3] σ Q := tk_entry (by decide) rfl (fun _ => Nat.le_of_ble_eq_true rfl) (fun _ => rfl) h
abbrev g_X7_far (d pc : Nat) (vals : List (Nat × tk_V)) (σ : tk_S) (Q : Int32 → tk_S → Prop) : Prop := tk_G RX7 cX7_far 3 (some .int) d pc vals σ (tk_i Q)
set_option maxHeartbeats 4000000 in
set_option maxRecDepth 100000 in
theorem b_X7_far_0 (d : Nat) (x1 : Int32) (x2 : Int32) (σ : tk_S) (Q : Int32 → tk_S → Prop) (h : p_X7_isShape d [aN 0, aI x1] σ (fun y3 σ2 => (y3 = 0 → Q (-1) σ2) ∧ (¬ y3 = 0 → p_X7_isShape d [aN 0, aI x2] σ2 (fun y7 σ6 => (¬ y7 = 0 → vp_in x1 12 ∧ (vp_in x2 12 ∧ (Q (σ6.1 (5 + 1 + 1 * Int32.toNatClampNeg x1) (Int32.toNatClampNeg x2)) σ6))) ∧ (y7 = 0 → Q (-1) σ6))))) : g_X7_far (d + 1) 0 [(0, aN 0), (1, aI x1), (2, aI x2)] σ Q := by
  intro p l e s m args below meth c D cy ad base H locs ls C w hl
  obtain ⟨hx, hb, hml, hown, hts, hr, hlk⟩ := id C
  have hl : lv_has ls 3 [(0, .ref (ad 0)), (1, .int x1), (2, .int x2)] := hl
  refine lv_aload_n hx hb dX7_far_0 rfl (lv_at hl 0 rfl) ?_
  refine lv_iload_n hx hb dX7_far_1 rfl (lv_at hl 1 rfl) ?_
  refine tk_cV C w (k := 0) rfl rfl (as := [aI x1]) (rest := []) mw_306 mw_2 mw_303 mw_304 mw_305 hd_X7_isShape (by decide) hl.1 (Nat.le_of_ble_eq_true rfl) rfl dX7_far_2 h (fun r1 σ2 H locs hq w => ?_)
  obtain ⟨y3, rfl, h⟩ := hq
  refine W.eq (g2 := F0 m 5 ls [.int y3]) rfl ?_
  refine lv_if_eq (tgt := 16) hx hb dX7_far_5 (by decide) (fun c4 => ?_) (fun c4 => ?_)
  · have h := h.1 c4
    refine lv_iconst (v := (-1)) hx hb dX7_far_16 (by decide) ?_
    exact tk_reti C w dX7_far_17 h
  · have h := h.2 c4
    refine lv_aload_n hx hb dX7_far_8 rfl (lv_at hl 0 rfl) ?_
    refine lv_iload_n hx hb dX7_far_9 rfl (lv_at hl 2 rfl) ?_
    refine tk_cV C w (k := 0) rfl rfl (as := [aI x2]) (rest := []) mw_306 mw_2 mw_303 mw_304 mw_305 hd_X7_isShape (by decide) hl.1 (Nat.le_of_ble_eq_true rfl) rfl dX7_far_10 h (fun r5 σ6 H locs hq w => ?_)
    obtain ⟨y7, rfl, h⟩ := hq
    refine W.eq (g2 := F0 m 13 ls [.int y7]) rfl ?_
    refine lv_if_ne (tgt := 18) hx hb dX7_far_13 (by decide) (fun c8 => ?_) (fun c8 => ?_)
    · have h := h.1 c8
      refine lv_aload_n hx hb dX7_far_18 rfl (lv_at hl 0 rfl) ?_
      refine tk_get (k := 0) (v := .ref (ad 5)) hx hb hts hown w rfl rfl inlX7 7 (by decide) mw_20 rfl dX7_far_19 ?_
      refine lv_iload_n hx hb dX7_far_22 rfl (lv_at hl 1 rfl) ?_
      obtain ⟨hi9, h⟩ := h
      refine tk_aald (k := 5) (t := 1) (ty := .array .int) hx hb w rfl (by decide) rfl rfl hi9 dX7_far_23 ?_
      refine lv_iload_n hx hb dX7_far_24 rfl (lv_at hl 2 rfl) ?_
      obtain ⟨hi10, h⟩ := h
      refine tk_iald (k := 5 + 1 + 1 * Int32.toNatClampNeg x1) hx hb w (tk_r5 hi9) hi10 dX7_far_25 ?_
      exact tk_reti C w dX7_far_26 h
    · have h := h.2 c8
      refine lv_iconst (v := (-1)) hx hb dX7_far_16 (by decide) ?_
      exact tk_reti C w dX7_far_17 h
theorem e_X7_far (d : Nat) (x1 : Int32) (x2 : Int32) {σ : tk_S} {Q : Int32 → tk_S → Prop} (h : g_X7_far d 0 [(0, aN 0), (1, aI x1), (2, aI x2)] σ Q) : p_X7_far d [aN 0, aI x1, aI x2] σ Q := tk_entry (by decide) rfl (fun _ => Nat.le_of_ble_eq_true rfl) (fun _ => rfl) h
abbrev g_X7_simple (d pc : Nat) (vals : List (Nat × tk_V)) (σ : tk_S) (Q : Int32 → tk_S → Prop) : Prop := tk_G RX7 cX7_simple 5 (some .int) d pc vals σ (tk_i Q)
set_option maxHeartbeats 4000000 in
set_option maxRecDepth 100000 in
theorem b_X7_simple_0 (d : Nat) (x1 : Int32) (x2 : Int32) (x3 : Int32) (σ : tk_S) (Q : Int32 → tk_S → Prop) (h : p_X7_canSimplify d [aN 0, aI x1, aI x2] σ (fun y3 σ2 => (y3 = 0 → Q (-1) σ2) ∧ (¬ y3 = 0 → (x3 < 0 → Q (-1) σ2) ∧ (¬ x3 < 0 → (x3 ≤ 1 → vp_in x1 12 ∧ (p_X4_fewest d [aN 20, aN (1 + 71 + 5 * Int32.toNatClampNeg x1), aI x2] σ2 (fun y10 σ9 => (¬ x3 = 0 → Q y10 σ9) ∧ (x3 = 0 → p_J6_bitCount_0f7a4 d [aI y10] σ9 (fun y14 σ13 => Q y14 σ13))))) ∧ (¬ x3 ≤ 1 → Q (-1) σ2))))) : g_X7_simple (d + 1) 0 [(0, aN 0), (1, aI x1), (2, aI x2), (3, aI x3)] σ Q := by
  intro p l e s m args below meth c D cy ad base H locs ls C w hl
  obtain ⟨hx, hb, hml, hown, hts, hr, hlk⟩ := id C
  have hl : lv_has ls 5 [(0, .ref (ad 0)), (1, .int x1), (2, .int x2), (3, .int x3)] := hl
  refine lv_aload_n hx hb dX7_simple_0 rfl (lv_at hl 0 rfl) ?_
  refine lv_iload_n hx hb dX7_simple_1 rfl (lv_at hl 1 rfl) ?_
  refine lv_iload_n hx hb dX7_simple_2 rfl (lv_at hl 2 rfl) ?_
  refine tk_cV C w (k := 0) rfl rfl (as := [aI x1, aI x2]) (rest := []) mw_408 mw_2 mw_405 mw_406 mw_407 hd_X7_canSimplify (by decide) hl.1 (Nat.le_of_ble_eq_true rfl) rfl dX7_simple_3 h (fun r1 σ2 H locs hq w => ?_)
  obtain ⟨y3, rfl, h⟩ := hq
  refine W.eq (g2 := F0 m 6 ls [.int y3]) rfl ?_
  refine lv_if_eq (tgt := 18) hx hb dX7_simple_6 (by decide) (fun c4 => ?_) (fun c4 => ?_)
  · have h := h.1 c4
    refine lv_iconst (v := (-1)) hx hb dX7_simple_18 (by decide) ?_
    exact tk_reti C w dX7_simple_19 h
  · have h := h.2 c4
    refine lv_iload_n hx hb dX7_simple_9 rfl (lv_at hl 3 rfl) ?_
    refine lv_if_lt (tgt := 18) hx hb dX7_simple_10 (by decide) (fun c5 => ?_) (fun c5 => ?_)
    · have h := h.1 c5
      refine lv_iconst (v := (-1)) hx hb dX7_simple_18 (by decide) ?_
      exact tk_reti C w dX7_simple_19 h
    · have h := h.2 c5
      refine lv_iload_n hx hb dX7_simple_13 rfl (lv_at hl 3 rfl) ?_
      refine lv_iconst (v := 1) hx hb dX7_simple_14 (by decide) ?_
      refine lv_icmp_le (tgt := 20) hx hb dX7_simple_15 (by decide) (fun c6 => ?_) (fun c6 => ?_)
      · have h := h.1 c6
        refine lv_aload_n hx hb dX7_simple_20 rfl (lv_at hl 0 rfl) ?_
        refine tk_get (k := 0) (v := .ref (ad 20)) hx hb hts hown w rfl rfl inlX7 9 (by decide) mw_28 rfl dX7_simple_21 ?_
        refine lv_aload_n hx hb dX7_simple_24 rfl (lv_at hl 0 rfl) ?_
        refine tk_get (k := 0) (v := .ref (ad 1)) hx hb hts hown w rfl rfl inlX7 0 (by decide) mw_13 rfl dX7_simple_25 ?_
        refine lv_iload_n hx hb dX7_simple_28 rfl (lv_at hl 1 rfl) ?_
        obtain ⟨hi7, h⟩ := h
        refine tk_aald (k := 1) (t := 0) (ty := .object "TouchSheet$Shape") hx hb w rfl (by decide) rfl rfl hi7 dX7_simple_29 ?_
        refine lv_iload_n hx hb dX7_simple_30 rfl (lv_at hl 2 rfl) ?_
        refine tk_cV C w (k := 20) rfl rfl (as := [aN (1 + 71 + 5 * Int32.toNatClampNeg x1), aI x2]) (rest := []) mw_412 mw_27 mw_409 mw_410 mw_411 hd_X4_fewest (by decide) hl.1 (Nat.le_of_ble_eq_true rfl) rfl dX7_simple_31 h (fun r8 σ9 H locs hq w => ?_)
        obtain ⟨y10, rfl, h⟩ := hq
        refine W.eq (g2 := F0 m 34 ls [.int y10]) rfl ?_
        refine lv_istore (lv' := [(4, .int y10), (0, .ref (ad 0)), (1, .int x1), (2, .int x2), (3, .int x3)]) hx hb dX7_simple_34 hl (by decide) rfl (fun ls hl => ?_)
        refine lv_iload_n hx hb dX7_simple_36 rfl (lv_at hl 4 rfl) ?_
        refine lv_if_ne (tgt := 48) hx hb dX7_simple_37 (by decide) (fun c11 => ?_) (fun c11 => ?_)
        · have h := h.1 c11
          refine lv_iload hx hb dX7_simple_48 (lv_at hl 0 rfl) ?_
          exact tk_reti C w dX7_simple_50 h
        · have h := h.2 c11
          refine lv_iload hx hb dX7_simple_40 (lv_at hl 0 rfl) ?_
          refine tk_cS C w (as := [aI y10]) (rest := []) mw_361 mw_360 mw_426 mw_359 hd_J6_bitCount_0f7a4 (by decide) hl.1 (Nat.le_of_ble_eq_true rfl) rfl dX7_simple_42 h (fun r12 σ13 H locs hq w => ?_)
          obtain ⟨y14, rfl, h⟩ := hq
          refine W.eq (g2 := F0 m 45 ls [.int y14]) rfl ?_
          refine lv_goto (tgt := 50) hx hb dX7_simple_45 (by decide) ?_
          exact tk_reti C w dX7_simple_50 h
      · have h := h.2 c6
        refine lv_iconst (v := (-1)) hx hb dX7_simple_18 (by decide) ?_
        exact tk_reti C w dX7_simple_19 h
theorem e_X7_simple (d : Nat) (x1 : Int32) (x2 : Int32) (x3 : Int32) {σ : tk_S} {Q : Int32 → tk_S → Prop} (h : g_X7_simple d 0 [(0, aN 0), (1, aI x1), (2, aI x2), (3, aI x3)] σ Q) : p_X7_simple d [aN 0, aI x1, aI x2, aI x3] σ Q := tk_entry (by decide) rfl (fun _ => Nat.le_of_ble_eq_true rfl) (fun _ => rfl) h
abbrev g_X7_simplify (d pc : Nat) (vals : List (Nat × tk_V)) (σ : tk_S) (Q : Int32 → tk_S → Prop) : Prop := tk_G RX7 cX7_simplify 4 (some .int) d pc vals σ (tk_i Q)
set_option maxHeartbeats 4000000 in
set_option maxRecDepth 100000 in
theorem b_X7_simplify_0 (d : Nat) (x1 : Int32) (x2 : Int32) (σ : tk_S) (Q : Int32 → tk_S → Prop) (h : p_X7_canSimplify d [aN 0, aI x1, aI x2] σ (fun y3 σ2 => (¬ y3 = 0 → vp_in x1 12 ∧ (p_X4_fewest d [aN 20, aN (1 + 71 + 5 * Int32.toNatClampNeg x1), aI x2] σ2 (fun y8 σ7 => p_X3_keepPlaces d [aN (1 + 71 + 5 * Int32.toNatClampNeg x1), aI y8] σ7 (fun σ10 => p_X3_draw d [aN (1 + 71 + 5 * Int32.toNatClampNeg x1)] σ10 (fun σ12 => p_X7_measure d [aN 0, aI x1] σ12 (fun σ14 => p_X7_forgetAnswers d [aN 0] σ14 (fun σ16 => Q (σ16.1 (1 + 71 + 5 * Int32.toNatClampNeg x1) 2) σ16))))))) ∧ (y3 = 0 → Q (-1) σ2))) : g_X7_simplify (d + 1) 0 [(0, aN 0), (1, aI x1), (2, aI x2)] σ Q := by
  intro p l e s m args below meth c D cy ad base H locs ls C w hl
  obtain ⟨hx, hb, hml, hown, hts, hr, hlk⟩ := id C
  have hl : lv_has ls 4 [(0, .ref (ad 0)), (1, .int x1), (2, .int x2)] := hl
  refine lv_aload_n hx hb dX7_simplify_0 rfl (lv_at hl 0 rfl) ?_
  refine lv_iload_n hx hb dX7_simplify_1 rfl (lv_at hl 1 rfl) ?_
  refine lv_iload_n hx hb dX7_simplify_2 rfl (lv_at hl 2 rfl) ?_
  refine tk_cV C w (k := 0) rfl rfl (as := [aI x1, aI x2]) (rest := []) mw_408 mw_2 mw_405 mw_406 mw_407 hd_X7_canSimplify (by decide) hl.1 (Nat.le_of_ble_eq_true rfl) rfl dX7_simplify_3 h (fun r1 σ2 H locs hq w => ?_)
  obtain ⟨y3, rfl, h⟩ := hq
  refine W.eq (g2 := F0 m 6 ls [.int y3]) rfl ?_
  refine lv_if_ne (tgt := 11) hx hb dX7_simplify_6 (by decide) (fun c4 => ?_) (fun c4 => ?_)
  · have h := h.1 c4
    refine lv_aload_n hx hb dX7_simplify_11 rfl (lv_at hl 0 rfl) ?_
    refine tk_get (k := 0) (v := .ref (ad 1)) hx hb hts hown w rfl rfl inlX7 0 (by decide) mw_13 rfl dX7_simplify_12 ?_
    refine lv_iload_n hx hb dX7_simplify_15 rfl (lv_at hl 1 rfl) ?_
    obtain ⟨hi5, h⟩ := h
    refine tk_aald (k := 1) (t := 0) (ty := .object "TouchSheet$Shape") hx hb w rfl (by decide) rfl rfl hi5 dX7_simplify_16 ?_
    refine lv_astore_n (lv' := [(3, .ref (ad (1 + 71 + 5 * Int32.toNatClampNeg x1))), (0, .ref (ad 0)), (1, .int x1), (2, .int x2)]) hx hb dX7_simplify_17 rfl hl (by decide) rfl (fun ls hl => ?_)
    refine lv_aload_n hx hb dX7_simplify_18 rfl (lv_at hl 0 rfl) ?_
    refine lv_aload_n hx hb dX7_simplify_19 rfl (lv_at hl 1 rfl) ?_
    refine tk_get (k := 0) (v := .ref (ad 20)) hx hb hts hown w rfl rfl inlX7 9 (by decide) mw_28 rfl dX7_simplify_20 ?_
    refine lv_aload_n hx hb dX7_simplify_23 rfl (lv_at hl 0 rfl) ?_
    refine lv_iload_n hx hb dX7_simplify_24 rfl (lv_at hl 3 rfl) ?_
    refine tk_cV C w (k := 20) rfl rfl (as := [aN (1 + 71 + 5 * Int32.toNatClampNeg x1), aI x2]) (rest := [.ref (ad (1 + 71 + 5 * Int32.toNatClampNeg x1))]) mw_412 mw_27 mw_409 mw_410 mw_411 hd_X4_fewest (by decide) hl.1 (Nat.le_of_ble_eq_true rfl) rfl dX7_simplify_25 h (fun r6 σ7 H locs hq w => ?_)
    obtain ⟨y8, rfl, h⟩ := hq
    refine W.eq (g2 := F0 m 28 ls [.int y8, .ref (ad (1 + 71 + 5 * Int32.toNatClampNeg x1))]) rfl ?_
    refine tk_cV C w (k := 1 + 71 + 5 * Int32.toNatClampNeg x1) (tk_r1 hi5) rfl (as := [aI y8]) (rest := []) mw_464 mw_48 mw_461 mw_462 mw_463 hd_X3_keepPlaces (by decide) hl.1 (Nat.le_of_ble_eq_true rfl) rfl dX7_simplify_28 h (fun r9 σ10 H locs hq w => ?_)
    obtain ⟨rfl, h⟩ := hq
    refine W.eq (g2 := F0 m 31 ls []) rfl ?_
    refine lv_aload_n hx hb dX7_simplify_31 rfl (lv_at hl 0 rfl) ?_
    refine tk_cV C w (k := 1 + 71 + 5 * Int32.toNatClampNeg x1) (tk_r1 hi5) rfl (as := []) (rest := []) mw_168 mw_48 mw_165 mw_166 mw_167 hd_X3_draw (by decide) hl.1 (Nat.le_of_ble_eq_true rfl) rfl dX7_simplify_32 h (fun r11 σ12 H locs hq w => ?_)
    obtain ⟨rfl, h⟩ := hq
    refine W.eq (g2 := F0 m 35 ls []) rfl ?_
    refine lv_aload_n hx hb dX7_simplify_35 rfl (lv_at hl 1 rfl) ?_
    refine lv_iload_n hx hb dX7_simplify_36 rfl (lv_at hl 2 rfl) ?_
    refine tk_cV C w (k := 0) rfl rfl (as := [aI x1]) (rest := []) mw_208 mw_2 mw_205 mw_206 mw_207 hd_X7_measure (by decide) hl.1 (Nat.le_of_ble_eq_true rfl) rfl dX7_simplify_37 h (fun r13 σ14 H locs hq w => ?_)
    obtain ⟨rfl, h⟩ := hq
    refine W.eq (g2 := F0 m 40 ls []) rfl ?_
    refine lv_aload_n hx hb dX7_simplify_40 rfl (lv_at hl 1 rfl) ?_
    refine tk_cV C w (k := 0) rfl rfl (as := []) (rest := []) mw_232 mw_2 mw_229 mw_230 mw_231 hd_X7_forgetAnswers (by decide) hl.1 (Nat.le_of_ble_eq_true rfl) rfl dX7_simplify_41 h (fun r15 σ16 H locs hq w => ?_)
    obtain ⟨rfl, h⟩ := hq
    refine W.eq (g2 := F0 m 44 ls []) rfl ?_
    refine lv_aload_n hx hb dX7_simplify_44 rfl (lv_at hl 0 rfl) ?_
    refine tk_get (k := 1 + 71 + 5 * Int32.toNatClampNeg x1) (v := .int (σ16.1 (1 + 71 + 5 * Int32.toNatClampNeg x1) 2)) hx hb hts hown w (tk_r1 hi5) rfl inlX3 2 (by decide) mw_353 rfl dX7_simplify_45 ?_
    exact tk_reti C w dX7_simplify_48 h
  · have h := h.2 c4
    refine lv_iconst (v := (-1)) hx hb dX7_simplify_9 (by decide) ?_
    exact tk_reti C w dX7_simplify_10 h
theorem e_X7_simplify (d : Nat) (x1 : Int32) (x2 : Int32) {σ : tk_S} {Q : Int32 → tk_S → Prop} (h : g_X7_simplify d 0 [(0, aN 0), (1, aI x1), (2, aI x2)] σ Q) : p_X7_simplify d [aN 0, aI x1, aI x2] σ Q := tk_entry (by decide) rfl (fun _ => Nat.le_of_ble_eq_true rfl) (fun _ => rfl) h
abbrev g_X7_kept (d pc : Nat) (vals : List (Nat × tk_V)) (σ : tk_S) (Q : Int32 → tk_S → Prop) : Prop := tk_G RX7 cX7_kept 1 (some .int) d pc vals σ (tk_i Q)
set_option maxHeartbeats 4000000 in
set_option maxRecDepth 100000 in
theorem b_X7_kept_0 (d : Nat)  (σ : tk_S) (Q : Int32 → tk_S → Prop) (h : p_X7_chosen d [aN 0] σ (fun y3 σ2 => Q y3 σ2)) : g_X7_kept (d + 1) 0 [(0, aN 0)] σ Q := by
  intro p l e s m args below meth c D cy ad base H locs ls C w hl
  obtain ⟨hx, hb, hml, hown, hts, hr, hlk⟩ := id C
  have hl : lv_has ls 1 [(0, .ref (ad 0))] := hl
  refine lv_aload_n hx hb dX7_kept_0 rfl (lv_at hl 0 rfl) ?_
  refine tk_cV C w (k := 0) rfl rfl (as := []) (rest := []) mw_477 mw_2 mw_474 mw_475 mw_476 hd_X7_chosen (by decide) hl.1 (Nat.le_of_ble_eq_true rfl) rfl dX7_kept_1 h (fun r1 σ2 H locs hq w => ?_)
  obtain ⟨y3, rfl, h⟩ := hq
  refine W.eq (g2 := F0 m 4 ls [.int y3]) rfl ?_
  exact tk_reti C w dX7_kept_4 h
theorem e_X7_kept (d : Nat)  {σ : tk_S} {Q : Int32 → tk_S → Prop} (h : g_X7_kept d 0 [(0, aN 0)] σ Q) : p_X7_kept d [aN 0] σ Q := tk_entry (by decide) rfl (fun _ => Nat.le_of_ble_eq_true rfl) (fun _ => rfl) h
abbrev g_X7_loss (d pc : Nat) (vals : List (Nat × tk_V)) (σ : tk_S) (Q : Int32 → tk_S → Prop) : Prop := tk_G RX7 cX7_loss 4 (some .int) d pc vals σ (tk_i Q)
set_option maxHeartbeats 4000000 in
set_option maxRecDepth 100000 in
theorem b_X7_loss_9 (d : Nat) (x1 : Int32) (x2 : Int32) (x3 : Int32) (σ : tk_S) (Q : Int32 → tk_S → Prop) (h : ((σ.1 0 1) ≤ x3 → Q x2 σ) ∧ (¬ (σ.1 0 1) ≤ x3 → p_X7_has d [aI x1, aI x3] σ (fun y4 σ3 => (y4 = 0 → vp_in x3 12 ∧ (∀ z7 : Int32, z7 = x2 + (σ3.1 (1 + 71 + 5 * Int32.toNatClampNeg x3) 1) → (g_X7_loss (d + 1) 9 [(0, aN 0), (1, aI x1), (2, aI z7), (3, aI (x3 + 1))] σ3 Q))) ∧ (¬ y4 = 0 → g_X7_loss (d + 1) 9 [(0, aN 0), (1, aI x1), (2, aI (x2 + 0)), (3, aI (x3 + 1))] σ3 Q)))) : g_X7_loss (d + 1) 9 [(0, aN 0), (1, aI x1), (2, aI x2), (3, aI x3)] σ Q := by
  intro p l e s m args below meth c D cy ad base H locs ls C w hl
  obtain ⟨hx, hb, hml, hown, hts, hr, hlk⟩ := id C
  have hl : lv_has ls 4 [(0, .ref (ad 0)), (1, .int x1), (2, .int x2), (3, .int x3)] := hl
  refine lv_iload_n hx hb dX7_loss_9 rfl (lv_at hl 3 rfl) ?_
  refine lv_aload_n hx hb dX7_loss_10 rfl (lv_at hl 0 rfl) ?_
  refine tk_get (k := 0) (v := .int (σ.1 0 1)) hx hb hts hown w rfl rfl inlX7 1 (by decide) mw_145 rfl dX7_loss_11 ?_
  refine lv_icmp_ge (tgt := 47) hx hb dX7_loss_14 (by decide) (fun c1 => ?_) (fun c1 => ?_)
  · have h := h.1 c1
    refine lv_iload_n hx hb dX7_loss_47 rfl (lv_at hl 2 rfl) ?_
    exact tk_reti C w dX7_loss_48 h
  · have h := h.2 c1
    refine lv_iload_n hx hb dX7_loss_17 rfl (lv_at hl 2 rfl) ?_
    refine lv_iload_n hx hb dX7_loss_18 rfl (lv_at hl 1 rfl) ?_
    refine lv_iload_n hx hb dX7_loss_19 rfl (lv_at hl 3 rfl) ?_
    refine tk_cS C w (as := [aI x1, aI x3]) (rest := [.int x2]) mw_216 mw_2 mw_214 mw_215 hd_X7_has (by decide) hl.1 (Nat.le_of_ble_eq_true rfl) rfl dX7_loss_20 h (fun r2 σ3 H locs hq w => ?_)
    obtain ⟨y4, rfl, h⟩ := hq
    refine W.eq (g2 := F0 m 23 ls [.int y4, .int x2]) rfl ?_
    refine lv_if_eq (tgt := 30) hx hb dX7_loss_23 (by decide) (fun c5 => ?_) (fun c5 => ?_)
    · have h := h.1 c5
      refine lv_aload_n hx hb dX7_loss_30 rfl (lv_at hl 0 rfl) ?_
      refine tk_get (k := 0) (v := .ref (ad 1)) hx hb hts hown w rfl rfl inlX7 0 (by decide) mw_13 rfl dX7_loss_31 ?_
      refine lv_iload_n hx hb dX7_loss_34 rfl (lv_at hl 3 rfl) ?_
      obtain ⟨hi6, h⟩ := h
      refine tk_aald (k := 1) (t := 0) (ty := .object "TouchSheet$Shape") hx hb w rfl (by decide) rfl rfl hi6 dX7_loss_35 ?_
      refine tk_get (k := 1 + 71 + 5 * Int32.toNatClampNeg x3) (v := .int (σ3.1 (1 + 71 + 5 * Int32.toNatClampNeg x3) 1)) hx hb hts hown w (tk_r1 hi6) rfl inlX3 1 (by decide) mw_352 rfl dX7_loss_36 ?_
      refine lv_iadd hx hb dX7_loss_39 ?_
      refine lv_topi (fun z7 e_z7 => ?_)
      have h := h z7 e_z7
      refine lv_istore_n (lv' := [(2, .int z7), (0, .ref (ad 0)), (1, .int x1), (3, .int x3)]) hx hb dX7_loss_40 rfl hl (by decide) rfl (fun ls hl => ?_)
      refine lv_iinc (v := x3 + 1) (lv' := [(3, .int (x3 + 1)), (2, .int z7), (0, .ref (ad 0)), (1, .int x1)]) hx hb dX7_loss_41 hl (k := 3) rfl rfl (by decide) rfl (fun ls hl => ?_)
      refine lv_goto (tgt := 9) hx hb dX7_loss_44 (by decide) ?_
      exact h _ _ _ _ _ _ _ _ _ _ _ _ _ _ _ _ C w (lv_sub hl [2, 3, 1, 0] rfl)
    · have h := h.2 c5
      refine lv_iconst (v := 0) hx hb dX7_loss_26 (by decide) ?_
      refine lv_goto (tgt := 39) hx hb dX7_loss_27 (by decide) ?_
      refine lv_iadd hx hb dX7_loss_39 ?_
      refine lv_istore_n (lv' := [(2, .int (x2 + 0)), (0, .ref (ad 0)), (1, .int x1), (3, .int x3)]) hx hb dX7_loss_40 rfl hl (by decide) rfl (fun ls hl => ?_)
      refine lv_iinc (v := x3 + 1) (lv' := [(3, .int (x3 + 1)), (2, .int (x2 + 0)), (0, .ref (ad 0)), (1, .int x1)]) hx hb dX7_loss_41 hl (k := 3) rfl rfl (by decide) rfl (fun ls hl => ?_)
      refine lv_goto (tgt := 9) hx hb dX7_loss_44 (by decide) ?_
      exact h _ _ _ _ _ _ _ _ _ _ _ _ _ _ _ _ C w (lv_sub hl [2, 3, 1, 0] rfl)
set_option maxHeartbeats 4000000 in
set_option maxRecDepth 100000 in
theorem b_X7_loss_0 (d : Nat)  (σ : tk_S) (Q : Int32 → tk_S → Prop) (h : p_X7_chosen d [aN 0] σ (fun y3 σ2 => g_X7_loss (d + 1) 9 [(0, aN 0), (1, aI y3), (2, aI 0), (3, aI 0)] σ2 Q)) : g_X7_loss (d + 1) 0 [(0, aN 0)] σ Q := by
  intro p l e s m args below meth c D cy ad base H locs ls C w hl
  obtain ⟨hx, hb, hml, hown, hts, hr, hlk⟩ := id C
  have hl : lv_has ls 4 [(0, .ref (ad 0))] := hl
  refine lv_aload_n hx hb dX7_loss_0 rfl (lv_at hl 0 rfl) ?_
  refine tk_cV C w (k := 0) rfl rfl (as := []) (rest := []) mw_477 mw_2 mw_474 mw_475 mw_476 hd_X7_chosen (by decide) hl.1 (Nat.le_of_ble_eq_true rfl) rfl dX7_loss_1 h (fun r1 σ2 H locs hq w => ?_)
  obtain ⟨y3, rfl, h⟩ := hq
  refine W.eq (g2 := F0 m 4 ls [.int y3]) rfl ?_
  refine lv_istore_n (lv' := [(1, .int y3), (0, .ref (ad 0))]) hx hb dX7_loss_4 rfl hl (by decide) rfl (fun ls hl => ?_)
  refine lv_iconst (v := 0) hx hb dX7_loss_5 (by decide) ?_
  refine lv_istore_n (lv' := [(2, .int 0), (1, .int y3), (0, .ref (ad 0))]) hx hb dX7_loss_6 rfl hl (by decide) rfl (fun ls hl => ?_)
  refine lv_iconst (v := 0) hx hb dX7_loss_7 (by decide) ?_
  refine lv_istore_n (lv' := [(3, .int 0), (2, .int 0), (1, .int y3), (0, .ref (ad 0))]) hx hb dX7_loss_8 rfl hl (by decide) rfl (fun ls hl => ?_)
  exact h _ _ _ _ _ _ _ _ _ _ _ _ _ _ _ _ C w (lv_sub hl [3, 2, 1, 0] rfl)
theorem e_X7_loss (d : Nat)  {σ : tk_S} {Q : Int32 → tk_S → Prop} (h : g_X7_loss d 0 [(0, aN 0)] σ Q) : p_X7_loss d [aN 0] σ Q := tk_entry (by decide) rfl (fun _ => Nat.le_of_ble_eq_true rfl) (fun _ => rfl) h
abbrev g_X7_sheets (d pc : Nat) (vals : List (Nat × tk_V)) (σ : tk_S) (Q : Int32 → tk_S → Prop) : Prop := tk_G RX7 cX7_sheets 1 (some .int) d pc vals σ (tk_i Q)
set_option maxHeartbeats 4000000 in
set_option maxRecDepth 100000 in
theorem b_X7_sheets_0 (d : Nat)  (σ : tk_S) (Q : Int32 → tk_S → Prop) (h : p_X7_stack d [aN 0] σ (fun σ2 => Q (σ2.1 25 4) σ2)) : g_X7_sheets (d + 1) 0 [(0, aN 0)] σ Q := by
  intro p l e s m args below meth c D cy ad base H locs ls C w hl
  obtain ⟨hx, hb, hml, hown, hts, hr, hlk⟩ := id C
  have hl : lv_has ls 1 [(0, .ref (ad 0))] := hl
  refine lv_aload_n hx hb dX7_sheets_0 rfl (lv_at hl 0 rfl) ?_
  refine tk_cV C w (k := 0) rfl rfl (as := []) (rest := []) mw_526 mw_2 mw_523 mw_524 mw_525 hd_X7_stack (by decide) hl.1 (Nat.le_of_ble_eq_true rfl) rfl dX7_sheets_1 h (fun r1 σ2 H locs hq w => ?_)
  obtain ⟨rfl, h⟩ := hq
  refine W.eq (g2 := F0 m 4 ls []) rfl ?_
  refine lv_aload_n hx hb dX7_sheets_4 rfl (lv_at hl 0 rfl) ?_
  refine tk_get (k := 0) (v := .ref (ad 25)) hx hb hts hown w rfl rfl inlX7 11 (by decide) mw_36 rfl dX7_sheets_5 ?_
  refine tk_get (k := 25) (v := .int (σ2.1 25 4)) hx hb hts hown w rfl rfl inlX5 4 (by decide) mw_522 rfl dX7_sheets_8 ?_
  exact tk_reti C w dX7_sheets_11 h
theorem e_X7_sheets (d : Nat)  {σ : tk_S} {Q : Int32 → tk_S → Prop} (h : g_X7_sheets d 0 [(0, aN 0)] σ Q) : p_X7_sheets d [aN 0] σ Q := tk_entry (by decide) rfl (fun _ => Nat.le_of_ble_eq_true rfl) (fun _ => rfl) h
abbrev g_X7_sheet (d pc : Nat) (vals : List (Nat × tk_V)) (σ : tk_S) (Q : Int32 → tk_S → Prop) : Prop := tk_G RX7 cX7_sheet 2 (some .int) d pc vals σ (tk_i Q)
set_option maxHeartbeats 4000000 in
set_option maxRecDepth 100000 in
theorem b_X7_sheet_0 (d : Nat) (x1 : Int32) (σ : tk_S) (Q : Int32 → tk_S → Prop) (h : p_X7_isShape d [aN 0, aI x1] σ (fun y3 σ2 => (¬ y3 = 0 → p_X7_stack d [aN 0] σ2 (fun σ6 => vp_in x1 12 ∧ (Q (σ6.1 29 (Int32.toNatClampNeg x1)) σ6))) ∧ (y3 = 0 → Q (-1) σ2))) : g_X7_sheet (d + 1) 0 [(0, aN 0), (1, aI x1)] σ Q := by
  intro p l e s m args below meth c D cy ad base H locs ls C w hl
  obtain ⟨hx, hb, hml, hown, hts, hr, hlk⟩ := id C
  have hl : lv_has ls 2 [(0, .ref (ad 0)), (1, .int x1)] := hl
  refine lv_aload_n hx hb dX7_sheet_0 rfl (lv_at hl 0 rfl) ?_
  refine lv_iload_n hx hb dX7_sheet_1 rfl (lv_at hl 1 rfl) ?_
  refine tk_cV C w (k := 0) rfl rfl (as := [aI x1]) (rest := []) mw_306 mw_2 mw_303 mw_304 mw_305 hd_X7_isShape (by decide) hl.1 (Nat.le_of_ble_eq_true rfl) rfl dX7_sheet_2 h (fun r1 σ2 H locs hq w => ?_)
  obtain ⟨y3, rfl, h⟩ := hq
  refine W.eq (g2 := F0 m 5 ls [.int y3]) rfl ?_
  refine lv_if_ne (tgt := 10) hx hb dX7_sheet_5 (by decide) (fun c4 => ?_) (fun c4 => ?_)
  · have h := h.1 c4
    refine lv_aload_n hx hb dX7_sheet_10 rfl (lv_at hl 0 rfl) ?_
    refine tk_cV C w (k := 0) rfl rfl (as := []) (rest := []) mw_526 mw_2 mw_523 mw_524 mw_525 hd_X7_stack (by decide) hl.1 (Nat.le_of_ble_eq_true rfl) rfl dX7_sheet_11 h (fun r5 σ6 H locs hq w => ?_)
    obtain ⟨rfl, h⟩ := hq
    refine W.eq (g2 := F0 m 14 ls []) rfl ?_
    refine lv_aload_n hx hb dX7_sheet_14 rfl (lv_at hl 0 rfl) ?_
    refine tk_get (k := 0) (v := .ref (ad 25)) hx hb hts hown w rfl rfl inlX7 11 (by decide) mw_36 rfl dX7_sheet_15 ?_
    refine tk_get (k := 25) (v := .ref (ad 29)) hx hb hts hown w rfl rfl inlX5 3 (by decide) mw_553 rfl dX7_sheet_18 ?_
    refine lv_iload_n hx hb dX7_sheet_21 rfl (lv_at hl 1 rfl) ?_
    obtain ⟨hi7, h⟩ := h
    refine tk_iald (k := 29) hx hb w rfl hi7 dX7_sheet_22 ?_
    exact tk_reti C w dX7_sheet_23 h
  · have h := h.2 c4
    refine lv_iconst (v := (-1)) hx hb dX7_sheet_8 (by decide) ?_
    exact tk_reti C w dX7_sheet_9 h
theorem e_X7_sheet (d : Nat) (x1 : Int32) {σ : tk_S} {Q : Int32 → tk_S → Prop} (h : g_X7_sheet d 0 [(0, aN 0), (1, aI x1)] σ Q) : p_X7_sheet d [aN 0, aI x1] σ Q := tk_entry (by decide) rfl (fun _ => Nat.le_of_ble_eq_true rfl) (fun _ => rfl) h
abbrev g_X7_texture (d pc : Nat) (vals : List (Nat × tk_V)) (σ : tk_S) (Q : Int32 → tk_S → Prop) : Prop := tk_G RX7 cX7_texture 2 (some .int) d pc vals σ (tk_i Q)
set_option maxHeartbeats 4000000 in
set_option maxRecDepth 100000 in
theorem b_X7_texture_0 (d : Nat) (x1 : Int32) (σ : tk_S) (Q : Int32 → tk_S → Prop) (h : p_X7_isShape d [aN 0, aI x1] σ (fun y3 σ2 => (¬ y3 = 0 → p_X7_weave d [aN 0] σ2 (fun σ6 => p_X6_textureOf d [aN 30, aI x1] σ6 (fun y9 σ8 => Q y9 σ8))) ∧ (y3 = 0 → Q (-1) σ2))) : g_X7_texture (d + 1) 0 [(0, aN 0), (1, aI x1)] σ Q := by
  intro p l e s m args below meth c D cy ad base H locs ls C w hl
  obtain ⟨hx, hb, hml, hown, hts, hr, hlk⟩ := id C
  have hl : lv_has ls 2 [(0, .ref (ad 0)), (1, .int x1)] := hl
  refine lv_aload_n hx hb dX7_texture_0 rfl (lv_at hl 0 rfl) ?_
  refine lv_iload_n hx hb dX7_texture_1 rfl (lv_at hl 1 rfl) ?_
  refine tk_cV C w (k := 0) rfl rfl (as := [aI x1]) (rest := []) mw_306 mw_2 mw_303 mw_304 mw_305 hd_X7_isShape (by decide) hl.1 (Nat.le_of_ble_eq_true rfl) rfl dX7_texture_2 h (fun r1 σ2 H locs hq w => ?_)
  obtain ⟨y3, rfl, h⟩ := hq
  refine W.eq (g2 := F0 m 5 ls [.int y3]) rfl ?_
  refine lv_if_ne (tgt := 10) hx hb dX7_texture_5 (by decide) (fun c4 => ?_) (fun c4 => ?_)
  · have h := h.1 c4
    refine lv_aload_n hx hb dX7_texture_10 rfl (lv_at hl 0 rfl) ?_
    refine tk_cV C w (k := 0) rfl rfl (as := []) (rest := []) mw_566 mw_2 mw_563 mw_564 mw_565 hd_X7_weave (by decide) hl.1 (Nat.le_of_ble_eq_true rfl) rfl dX7_texture_11 h (fun r5 σ6 H locs hq w => ?_)
    obtain ⟨rfl, h⟩ := hq
    refine W.eq (g2 := F0 m 14 ls []) rfl ?_
    refine lv_aload_n hx hb dX7_texture_14 rfl (lv_at hl 0 rfl) ?_
    refine tk_get (k := 0) (v := .ref (ad 30)) hx hb hts hown w rfl rfl inlX7 12 (by decide) mw_40 rfl dX7_texture_15 ?_
    refine lv_iload_n hx hb dX7_texture_18 rfl (lv_at hl 1 rfl) ?_
    refine tk_cV C w (k := 30) rfl rfl (as := [aI x1]) (rest := []) mw_630 mw_39 mw_627 mw_628 mw_629 hd_X6_textureOf (by decide) hl.1 (Nat.le_of_ble_eq_true rfl) rfl dX7_texture_19 h (fun r7 σ8 H locs hq w => ?_)
    obtain ⟨y9, rfl, h⟩ := hq
    refine W.eq (g2 := F0 m 22 ls [.int y9]) rfl ?_
    exact tk_reti C w dX7_texture_22 h
  · have h := h.2 c4
    refine lv_iconst (v := (-1)) hx hb dX7_texture_8 (by decide) ?_
    exact tk_reti C w dX7_texture_9 h
theorem e_X7_texture (d : Nat) (x1 : Int32) {σ : tk_S} {Q : Int32 → tk_S → Prop} (h : g_X7_texture d 0 [(0, aN 0), (1, aI x1)] σ Q) : p_X7_texture d [aN 0, aI x1] σ Q := tk_entry (by decide) rfl (fun _ => Nat.le_of_ble_eq_true rfl) (fun _ => rfl) h
abbrev g_X7_cost (d pc : Nat) (vals : List (Nat × tk_V)) (σ : tk_S) (Q : Int32 → tk_S → Prop) : Prop := tk_G RX7 cX7_cost 1 (some .int) d pc vals σ (tk_i Q)
set_option maxHeartbeats 4000000 in
set_option maxRecDepth 100000 in
theorem b_X7_cost_0 (d : Nat)  (σ : tk_S) (Q : Int32 → tk_S → Prop) (h : p_X7_weave d [aN 0] σ (fun σ2 => p_X6_sumOfPrices d [aN 30] σ2 (fun y5 σ4 => Q y5 σ4))) : g_X7_cost (d + 1) 0 [(0, aN 0)] σ Q := by
  intro p l e s m args below meth c D cy ad base H locs ls C w hl
  obtain ⟨hx, hb, hml, hown, hts, hr, hlk⟩ := id C
  have hl : lv_has ls 1 [(0, .ref (ad 0))] := hl
  refine lv_aload_n hx hb dX7_cost_0 rfl (lv_at hl 0 rfl) ?_
  refine tk_cV C w (k := 0) rfl rfl (as := []) (rest := []) mw_566 mw_2 mw_563 mw_564 mw_565 hd_X7_weave (by decide) hl.1 (Nat.le_of_ble_eq_true rfl) rfl dX7_cost_1 h (fun r1 σ2 H locs hq w => ?_)
  obtain ⟨rfl, h⟩ := hq
  refine W.eq (g2 := F0 m 4 ls []) rfl ?_
  refine lv_aload_n hx hb dX7_cost_4 rfl (lv_at hl 0 rfl) ?_
  refine tk_get (k := 0) (v := .ref (ad 30)) hx hb hts hown w rfl rfl inlX7 12 (by decide) mw_40 rfl dX7_cost_5 ?_
  refine tk_cV C w (k := 30) rfl rfl (as := []) (rest := []) mw_652 mw_39 mw_649 mw_650 mw_651 hd_X6_sumOfPrices (by decide) hl.1 (Nat.le_of_ble_eq_true rfl) rfl dX7_cost_8 h (fun r3 σ4 H locs hq w => ?_)
  obtain ⟨y5, rfl, h⟩ := hq
  refine W.eq (g2 := F0 m 11 ls [.int y5]) rfl ?_
  exact tk_reti C w dX7_cost_11 h
theorem e_X7_cost (d : Nat)  {σ : tk_S} {Q : Int32 → tk_S → Prop} (h : g_X7_cost d 0 [(0, aN 0)] σ Q) : p_X7_cost d [aN 0] σ Q := tk_entry (by decide) rfl (fun _ => Nat.le_of_ble_eq_true rfl) (fun _ => rfl) h
abbrev g_X7_print (d pc : Nat) (vals : List (Nat × tk_V)) (σ : tk_S) (Q : Int32 → tk_S → Prop) : Prop := tk_G RX7 cX7_print 3 (some .int) d pc vals σ (tk_i Q)
set_option maxHeartbeats 4000000 in
set_option maxRecDepth 100000 in
theorem b_X7_print_29 (d : Nat) (x1 : Int32) (x2 : Int32) (σ : tk_S) (Q : Int32 → tk_S → Prop) (h : ((σ.1 0 1) ≤ x2 → p_X0_feel d [aN 54, aN 52] σ (fun σ3 => p_X2_size d [aN 52] σ3 (fun y6 σ5 => Q y6 σ5))) ∧ (¬ (σ.1 0 1) ≤ x2 → p_X7_has d [aI x1, aI x2] σ (fun y9 σ8 => (y9 = 0 → g_X7_print (d + 1) 29 [(0, aN 0), (1, aI x1), (2, aI (x2 + 1))] σ8 Q) ∧ (¬ y9 = 0 → vp_in x2 12 ∧ (p_X6_textureOf d [aN 30, aI x2] σ8 (fun y14 σ13 => p_X7_press d [aN 0, aN (1 + 71 + 5 * Int32.toNatClampNeg x2), aI y14] σ13 (fun σ16 => g_X7_print (d + 1) 29 [(0, aN 0), (1, aI x1), (2, aI (x2 + 1))] σ16 Q))))))) : g_X7_print (d + 1) 29 [(0, aN 0), (1, aI x1), (2, aI x2)] σ Q := by
  intro p l e s m args below meth c D cy ad base H locs ls C w hl
  obtain ⟨hx, hb, hml, hown, hts, hr, hlk⟩ := id C
  have hl : lv_has ls 3 [(0, .ref (ad 0)), (1, .int x1), (2, .int x2)] := hl
  refine lv_iload_n hx hb dX7_print_29 rfl (lv_at hl 2 rfl) ?_
  refine lv_aload_n hx hb dX7_print_30 rfl (lv_at hl 0 rfl) ?_
  refine tk_get (k := 0) (v := .int (σ.1 0 1)) hx hb hts hown w rfl rfl inlX7 1 (by decide) mw_145 rfl dX7_print_31 ?_
  refine lv_icmp_ge (tgt := 69) hx hb dX7_print_34 (by decide) (fun c1 => ?_) (fun c1 => ?_)
  · have h := h.1 c1
    refine lv_aload_n hx hb dX7_print_69 rfl (lv_at hl 0 rfl) ?_
    refine tk_get (k := 0) (v := .ref (ad 54)) hx hb hts hown w rfl rfl inlX7 18 (by decide) mw_46 rfl dX7_print_70 ?_
    refine lv_aload_n hx hb dX7_print_73 rfl (lv_at hl 0 rfl) ?_
    refine tk_get (k := 0) (v := .ref (ad 52)) hx hb hts hown w rfl rfl inlX7 17 (by decide) mw_42 rfl dX7_print_74 ?_
    refine tk_cV C w (k := 54) rfl rfl (as := [aN 52]) (rest := []) mw_682 mw_45 mw_679 mw_680 mw_681 hd_X0_feel (by decide) hl.1 (Nat.le_of_ble_eq_true rfl) rfl dX7_print_77 h (fun r2 σ3 H locs hq w => ?_)
    obtain ⟨rfl, h⟩ := hq
    refine W.eq (g2 := F0 m 80 ls []) rfl ?_
    refine lv_aload_n hx hb dX7_print_80 rfl (lv_at hl 0 rfl) ?_
    refine tk_get (k := 0) (v := .ref (ad 52)) hx hb hts hown w rfl rfl inlX7 17 (by decide) mw_42 rfl dX7_print_81 ?_
    refine tk_cV C w (k := 52) rfl rfl (as := []) (rest := []) mw_357 mw_23 mw_354 mw_355 mw_356 hd_X2_size (by decide) hl.1 (Nat.le_of_ble_eq_true rfl) rfl dX7_print_84 h (fun r4 σ5 H locs hq w => ?_)
    obtain ⟨y6, rfl, h⟩ := hq
    refine W.eq (g2 := F0 m 87 ls [.int y6]) rfl ?_
    exact tk_reti C w dX7_print_87 h
  · have h := h.2 c1
    refine lv_iload_n hx hb dX7_print_37 rfl (lv_at hl 1 rfl) ?_
    refine lv_iload_n hx hb dX7_print_38 rfl (lv_at hl 2 rfl) ?_
    refine tk_cS C w (as := [aI x1, aI x2]) (rest := []) mw_216 mw_2 mw_214 mw_215 hd_X7_has (by decide) hl.1 (Nat.le_of_ble_eq_true rfl) rfl dX7_print_39 h (fun r7 σ8 H locs hq w => ?_)
    obtain ⟨y9, rfl, h⟩ := hq
    refine W.eq (g2 := F0 m 42 ls [.int y9]) rfl ?_
    refine lv_if_eq (tgt := 63) hx hb dX7_print_42 (by decide) (fun c10 => ?_) (fun c10 => ?_)
    · have h := h.1 c10
      refine lv_iinc (v := x2 + 1) (lv' := [(2, .int (x2 + 1)), (0, .ref (ad 0)), (1, .int x1)]) hx hb dX7_print_63 hl (k := 2) rfl rfl (by decide) rfl (fun ls hl => ?_)
      refine lv_goto (tgt := 29) hx hb dX7_print_66 (by decide) ?_
      exact h _ _ _ _ _ _ _ _ _ _ _ _ _ _ _ _ C w (lv_sub hl [1, 2, 0] rfl)
    · have h := h.2 c10
      refine lv_aload_n hx hb dX7_print_45 rfl (lv_at hl 0 rfl) ?_
      refine lv_aload_n hx hb dX7_print_46 rfl (lv_at hl 0 rfl) ?_
      refine tk_get (k := 0) (v := .ref (ad 1)) hx hb hts hown w rfl rfl inlX7 0 (by decide) mw_13 rfl dX7_print_47 ?_
      refine lv_iload_n hx hb dX7_print_50 rfl (lv_at hl 2 rfl) ?_
      obtain ⟨hi11, h⟩ := h
      refine tk_aald (k := 1) (t := 0) (ty := .object "TouchSheet$Shape") hx hb w rfl (by decide) rfl rfl hi11 dX7_print_51 ?_
      refine lv_aload_n hx hb dX7_print_52 rfl (lv_at hl 0 rfl) ?_
      refine tk_get (k := 0) (v := .ref (ad 30)) hx hb hts hown w rfl rfl inlX7 12 (by decide) mw_40 rfl dX7_print_53 ?_
      refine lv_iload_n hx hb dX7_print_56 rfl (lv_at hl 2 rfl) ?_
      refine tk_cV C w (k := 30) rfl rfl (as := [aI x2]) (rest := [.ref (ad (1 + 71 + 5 * Int32.toNatClampNeg x2)), .ref (ad 0)]) mw_630 mw_39 mw_627 mw_628 mw_629 hd_X6_textureOf (by decide) hl.1 (Nat.le_of_ble_eq_true rfl) rfl dX7_print_57 h (fun r12 σ13 H locs hq w => ?_)
      obtain ⟨y14, rfl, h⟩ := hq
      refine W.eq (g2 := F0 m 60 ls [.int y14, .ref (ad (1 + 71 + 5 * Int32.toNatClampNeg x2)), .ref (ad 0)]) rfl ?_
      refine tk_cV C w (k := 0) rfl rfl (as := [aN (1 + 71 + 5 * Int32.toNatClampNeg x2), aI y14]) (rest := []) mw_665 mw_2 mw_662 mw_663 mw_664 hd_X7_press (by decide) hl.1 (Nat.le_of_ble_eq_true rfl) rfl dX7_print_60 h (fun r15 σ16 H locs hq w => ?_)
      obtain ⟨rfl, h⟩ := hq
      refine W.eq (g2 := F0 m 63 ls []) rfl ?_
      refine lv_iinc (v := x2 + 1) (lv' := [(2, .int (x2 + 1)), (0, .ref (ad 0)), (1, .int x1)]) hx hb dX7_print_63 hl (k := 2) rfl rfl (by decide) rfl (fun ls hl => ?_)
      refine lv_goto (tgt := 29) hx hb dX7_print_66 (by decide) ?_
      exact h _ _ _ _ _ _ _ _ _ _ _ _ _ _ _ _ C w (lv_sub hl [1, 2, 0] rfl)
set_option maxHeartbeats 4000000 in
set_option maxRecDepth 100000 in
theorem b_X7_print_0 (d : Nat) (x1 : Int32) (σ : tk_S) (Q : Int32 → tk_S → Prop) (h : (x1 < 0 → Q (-1) σ) ∧ (¬ x1 < 0 → (x1 < ((1 : Int32) <<< ((σ.1 0 1) &&& 31)) → p_X7_weave d [aN 0] σ (fun σ4 => p_X2_clear d [aN 52] σ4 (fun σ6 => g_X7_print (d + 1) 29 [(0, aN 0), (1, aI x1), (2, aI 0)] σ6 Q))) ∧ (¬ x1 < ((1 : Int32) <<< ((σ.1 0 1) &&& 31)) → Q (-1) σ))) : g_X7_print (d + 1) 0 [(0, aN 0), (1, aI x1)] σ Q := by
  intro p l e s m args below meth c D cy ad base H locs ls C w hl
  obtain ⟨hx, hb, hml, hown, hts, hr, hlk⟩ := id C
  have hl : lv_has ls 3 [(0, .ref (ad 0)), (1, .int x1)] := hl
  refine lv_iload_n hx hb dX7_print_0 rfl (lv_at hl 1 rfl) ?_
  refine lv_if_lt (tgt := 14) hx hb dX7_print_1 (by decide) (fun c1 => ?_) (fun c1 => ?_)
  · have h := h.1 c1
    refine lv_iconst (v := (-1)) hx hb dX7_print_14 (by decide) ?_
    exact tk_reti C w dX7_print_15 h
  · have h := h.2 c1
    refine lv_iload_n hx hb dX7_print_4 rfl (lv_at hl 1 rfl) ?_
    refine lv_iconst (v := 1) hx hb dX7_print_5 (by decide) ?_
    refine lv_aload_n hx hb dX7_print_6 rfl (lv_at hl 0 rfl) ?_
    refine tk_get (k := 0) (v := .int (σ.1 0 1)) hx hb hts hown w rfl rfl inlX7 1 (by decide) mw_145 rfl dX7_print_7 ?_
    refine lv_ishl hx hb dX7_print_10 ?_
    refine lv_icmp_lt (tgt := 16) hx hb dX7_print_11 (by decide) (fun c2 => ?_) (fun c2 => ?_)
    · have h := h.1 c2
      refine lv_aload_n hx hb dX7_print_16 rfl (lv_at hl 0 rfl) ?_
      refine tk_cV C w (k := 0) rfl rfl (as := []) (rest := []) mw_566 mw_2 mw_563 mw_564 mw_565 hd_X7_weave (by decide) hl.1 (Nat.le_of_ble_eq_true rfl) rfl dX7_print_17 h (fun r3 σ4 H locs hq w => ?_)
      obtain ⟨rfl, h⟩ := hq
      refine W.eq (g2 := F0 m 20 ls []) rfl ?_
      refine lv_aload_n hx hb dX7_print_20 rfl (lv_at hl 0 rfl) ?_
      refine tk_get (k := 0) (v := .ref (ad 52)) hx hb hts hown w rfl rfl inlX7 17 (by decide) mw_42 rfl dX7_print_21 ?_
      refine tk_cV C w (k := 52) rfl rfl (as := []) (rest := []) mw_172 mw_23 mw_661 mw_170 mw_171 hd_X2_clear (by decide) hl.1 (Nat.le_of_ble_eq_true rfl) rfl dX7_print_24 h (fun r5 σ6 H locs hq w => ?_)
      obtain ⟨rfl, h⟩ := hq
      refine W.eq (g2 := F0 m 27 ls []) rfl ?_
      refine lv_iconst (v := 0) hx hb dX7_print_27 (by decide) ?_
      refine lv_istore_n (lv' := [(2, .int 0), (0, .ref (ad 0)), (1, .int x1)]) hx hb dX7_print_28 rfl hl (by decide) rfl (fun ls hl => ?_)
      exact h _ _ _ _ _ _ _ _ _ _ _ _ _ _ _ _ C w (lv_sub hl [1, 2, 0] rfl)
    · have h := h.2 c2
      refine lv_iconst (v := (-1)) hx hb dX7_print_14 (by decide) ?_
      exact tk_reti C w dX7_print_15 h
theorem e_X7_print (d : Nat) (x1 : Int32) {σ : tk_S} {Q : Int32 → tk_S → Prop} (h : g_X7_print d 0 [(0, aN 0), (1, aI x1)] σ Q) : p_X7_print d [aN 0, aI x1] σ Q := tk_entry (by decide) rfl (fun _ => Nat.le_of_ble_eq_true rfl) (fun _ => rfl) h
abbrev g_X7_up (d pc : Nat) (vals : List (Nat × tk_V)) (σ : tk_S) (Q : Int32 → tk_S → Prop) : Prop := tk_G RX7 cX7_up 3 (some .int) d pc vals σ (tk_i Q)
set_option maxHeartbeats 4000000 in
set_option maxRecDepth 100000 in
theorem b_X7_up_0 (d : Nat) (x1 : Int32) (x2 : Int32) (σ : tk_S) (Q : Int32 → tk_S → Prop) (h : p_X7_isPin d [aI x1, aI x2] σ (fun y3 σ2 => (¬ y3 = 0 → p_X2_holds d [aN 52, aI x1, aI x2] σ2 (fun y7 σ6 => (y7 = 0 → Q 0 σ6) ∧ (¬ y7 = 0 → Q 1 σ6))) ∧ (y3 = 0 → Q (-1) σ2))) : g_X7_up (d + 1) 0 [(0, aN 0), (1, aI x1), (2, aI x2)] σ Q := by
  intro p l e s m args below meth c D cy ad base H locs ls C w hl
  obtain ⟨hx, hb, hml, hown, hts, hr, hlk⟩ := id C
  have hl : lv_has ls 3 [(0, .ref (ad 0)), (1, .int x1), (2, .int x2)] := hl
  refine lv_iload_n hx hb dX7_up_0 rfl (lv_at hl 1 rfl) ?_
  refine lv_iload_n hx hb dX7_up_1 rfl (lv_at hl 2 rfl) ?_
  refine tk_cS C w (as := [aI x1, aI x2]) (rest := []) mw_129 mw_2 mw_127 mw_128 hd_X7_isPin (by decide) hl.1 (Nat.le_of_ble_eq_true rfl) rfl dX7_up_2 h (fun r1 σ2 H locs hq w => ?_)
  obtain ⟨y3, rfl, h⟩ := hq
  refine W.eq (g2 := F0 m 5 ls [.int y3]) rfl ?_
  refine lv_if_ne (tgt := 10) hx hb dX7_up_5 (by decide) (fun c4 => ?_) (fun c4 => ?_)
  · have h := h.1 c4
    refine lv_aload_n hx hb dX7_up_10 rfl (lv_at hl 0 rfl) ?_
    refine tk_get (k := 0) (v := .ref (ad 52)) hx hb hts hown w rfl rfl inlX7 17 (by decide) mw_42 rfl dX7_up_11 ?_
    refine lv_iload_n hx hb dX7_up_14 rfl (lv_at hl 1 rfl) ?_
    refine lv_iload_n hx hb dX7_up_15 rfl (lv_at hl 2 rfl) ?_
    refine tk_cV C w (k := 52) rfl rfl (as := [aI x1, aI x2]) (rest := []) mw_380 mw_23 mw_377 mw_378 mw_379 hd_X2_holds (by decide) hl.1 (Nat.le_of_ble_eq_true rfl) rfl dX7_up_16 h (fun r5 σ6 H locs hq w => ?_)
    obtain ⟨y7, rfl, h⟩ := hq
    refine W.eq (g2 := F0 m 19 ls [.int y7]) rfl ?_
    refine lv_if_eq (tgt := 26) hx hb dX7_up_19 (by decide) (fun c8 => ?_) (fun c8 => ?_)
    · have h := h.1 c8
      refine lv_iconst (v := 0) hx hb dX7_up_26 (by decide) ?_
      exact tk_reti C w dX7_up_27 h
    · have h := h.2 c8
      refine lv_iconst (v := 1) hx hb dX7_up_22 (by decide) ?_
      refine lv_goto (tgt := 27) hx hb dX7_up_23 (by decide) ?_
      exact tk_reti C w dX7_up_27 h
  · have h := h.2 c4
    refine lv_iconst (v := (-1)) hx hb dX7_up_8 (by decide) ?_
    exact tk_reti C w dX7_up_9 h
theorem e_X7_up (d : Nat) (x1 : Int32) (x2 : Int32) {σ : tk_S} {Q : Int32 → tk_S → Prop} (h : g_X7_up d 0 [(0, aN 0), (1, aI x1), (2, aI x2)] σ Q) : p_X7_up d [aN 0, aI x1, aI x2] σ Q := tk_entry (by decide) rfl (fun _ => Nat.le_of_ble_eq_true rfl) (fun _ => rfl) h
abbrev g_X7_things (d pc : Nat) (vals : List (Nat × tk_V)) (σ : tk_S) (Q : Int32 → tk_S → Prop) : Prop := tk_G RX7 cX7_things 1 (some .int) d pc vals σ (tk_i Q)
set_option maxHeartbeats 4000000 in
set_option maxRecDepth 100000 in
theorem b_X7_things_0 (d : Nat)  (σ : tk_S) (Q : Int32 → tk_S → Prop) (h : Q (σ.1 54 3) σ) : g_X7_things d 0 [(0, aN 0)] σ Q := by
  intro p l e s m args below meth c D cy ad base H locs ls C w hl
  obtain ⟨hx, hb, hml, hown, hts, hr, hlk⟩ := id C
  have hl : lv_has ls 1 [(0, .ref (ad 0))] := hl
  refine lv_aload_n hx hb dX7_things_0 rfl (lv_at hl 0 rfl) ?_
  refine tk_get (k := 0) (v := .ref (ad 54)) hx hb hts hown w rfl rfl inlX7 18 (by decide) mw_46 rfl dX7_things_1 ?_
  refine tk_get (k := 54) (v := .int (σ.1 54 3)) hx hb hts hown w rfl rfl inlX0 3 (by decide) mw_737 rfl dX7_things_4 ?_
  exact tk_reti C w dX7_things_7 h
theorem e_X7_things (d : Nat)  {σ : tk_S} {Q : Int32 → tk_S → Prop} (h : g_X7_things d 0 [(0, aN 0)] σ Q) : p_X7_things d [aN 0] σ Q := tk_entry (by decide) rfl (fun _ => Nat.le_of_ble_eq_true rfl) (fun _ => rfl) h
abbrev g_X7_thing (d pc : Nat) (vals : List (Nat × tk_V)) (σ : tk_S) (Q : Int32 → tk_S → Prop) : Prop := tk_G RX7 cX7_thing 3 (some .int) d pc vals σ (tk_i Q)
set_option maxHeartbeats 4000000 in
set_option maxRecDepth 100000 in
theorem b_X7_thing_0 (d : Nat) (x1 : Int32) (x2 : Int32) (σ : tk_S) (Q : Int32 → tk_S → Prop) (h : (x1 < 0 → Q (-1) σ) ∧ (¬ x1 < 0 → ((σ.1 54 3) ≤ x1 → Q (-1) σ) ∧ (¬ (σ.1 54 3) ≤ x1 → (x2 < 0 → Q (-1) σ) ∧ (¬ x2 < 0 → (x2 < 6 → vp_in x1 12 ∧ (vp_in x2 6 ∧ (Q (σ.1 (59 + 1 + 1 * Int32.toNatClampNeg x1) (Int32.toNatClampNeg x2)) σ))) ∧ (¬ x2 < 6 → Q (-1) σ))))) : g_X7_thing d 0 [(0, aN 0), (1, aI x1), (2, aI x2)] σ Q := by
  intro p l e s m args below meth c D cy ad base H locs ls C w hl
  obtain ⟨hx, hb, hml, hown, hts, hr, hlk⟩ := id C
  have hl : lv_has ls 3 [(0, .ref (ad 0)), (1, .int x1), (2, .int x2)] := hl
  refine lv_iload_n hx hb dX7_thing_0 rfl (lv_at hl 1 rfl) ?_
  refine lv_if_lt (tgt := 25) hx hb dX7_thing_1 (by decide) (fun c1 => ?_) (fun c1 => ?_)
  · have h := h.1 c1
    refine lv_iconst (v := (-1)) hx hb dX7_thing_25 (by decide) ?_
    exact tk_reti C w dX7_thing_26 h
  · have h := h.2 c1
    refine lv_iload_n hx hb dX7_thing_4 rfl (lv_at hl 1 rfl) ?_
    refine lv_aload_n hx hb dX7_thing_5 rfl (lv_at hl 0 rfl) ?_
    refine tk_get (k := 0) (v := .ref (ad 54)) hx hb hts hown w rfl rfl inlX7 18 (by decide) mw_46 rfl dX7_thing_6 ?_
    refine tk_get (k := 54) (v := .int (σ.1 54 3)) hx hb hts hown w rfl rfl inlX0 3 (by decide) mw_737 rfl dX7_thing_9 ?_
    refine lv_icmp_ge (tgt := 25) hx hb dX7_thing_12 (by decide) (fun c2 => ?_) (fun c2 => ?_)
    · have h := h.1 c2
      refine lv_iconst (v := (-1)) hx hb dX7_thing_25 (by decide) ?_
      exact tk_reti C w dX7_thing_26 h
    · have h := h.2 c2
      refine lv_iload_n hx hb dX7_thing_15 rfl (lv_at hl 2 rfl) ?_
      refine lv_if_lt (tgt := 25) hx hb dX7_thing_16 (by decide) (fun c3 => ?_) (fun c3 => ?_)
      · have h := h.1 c3
        refine lv_iconst (v := (-1)) hx hb dX7_thing_25 (by decide) ?_
        exact tk_reti C w dX7_thing_26 h
      · have h := h.2 c3
        refine lv_iload_n hx hb dX7_thing_19 rfl (lv_at hl 2 rfl) ?_
        refine lv_bipush (v := 6) hx hb dX7_thing_20 (by decide) ?_
        refine lv_icmp_lt (tgt := 27) hx hb dX7_thing_22 (by decide) (fun c4 => ?_) (fun c4 => ?_)
        · have h := h.1 c4
          refine lv_aload_n hx hb dX7_thing_27 rfl (lv_at hl 0 rfl) ?_
          refine tk_get (k := 0) (v := .ref (ad 54)) hx hb hts hown w rfl rfl inlX7 18 (by decide) mw_46 rfl dX7_thing_28 ?_
          refine tk_get (k := 54) (v := .ref (ad 59)) hx hb hts hown w rfl rfl inlX0 2 (by decide) mw_751 rfl dX7_thing_31 ?_
          refine lv_iload_n hx hb dX7_thing_34 rfl (lv_at hl 1 rfl) ?_
          obtain ⟨hi5, h⟩ := h
          refine tk_aald (k := 59) (t := 1) (ty := .array .int) hx hb w rfl (by decide) rfl rfl hi5 dX7_thing_35 ?_
          refine lv_iload_n hx hb dX7_thing_36 rfl (lv_at hl 2 rfl) ?_
          obtain ⟨hi6, h⟩ := h
          refine tk_iald (k := 59 + 1 + 1 * Int32.toNatClampNeg x1) hx hb w (tk_r59 hi5) hi6 dX7_thing_37 ?_
          exact tk_reti C w dX7_thing_38 h
        · have h := h.2 c4
          refine lv_iconst (v := (-1)) hx hb dX7_thing_25 (by decide) ?_
          exact tk_reti C w dX7_thing_26 h
theorem e_X7_thing (d : Nat) (x1 : Int32) (x2 : Int32) {σ : tk_S} {Q : Int32 → tk_S → Prop} (h : g_X7_thing d 0 [(0, aN 0), (1, aI x1), (2, aI x2)] σ Q) : p_X7_thing d [aN 0, aI x1, aI x2] σ Q := tk_entry (by decide) rfl (fun _ => Nat.le_of_ble_eq_true rfl) (fun _ => rfl) h
abbrev g_X7_isPin (d pc : Nat) (vals : List (Nat × tk_V)) (σ : tk_S) (Q : Int32 → tk_S → Prop) : Prop := tk_G RX7 cX7_isPin 2 (some .boolean) d pc vals σ (tk_i Q)
set_option maxHeartbeats 4000000 in
set_option maxRecDepth 100000 in
theorem b_X7_isPin_0 (d : Nat) (x0 : Int32) (x1 : Int32) (σ : tk_S) (Q : Int32 → tk_S → Prop) (h : (x0 < 0 → Q 0 σ) ∧ (¬ x0 < 0 → (24 ≤ x0 → Q 0 σ) ∧ (¬ 24 ≤ x0 → (x1 < 0 → Q 0 σ) ∧ (¬ x1 < 0 → (24 ≤ x1 → Q 0 σ) ∧ (¬ 24 ≤ x1 → Q 1 σ))))) : g_X7_isPin d 0 [(0, aI x0), (1, aI x1)] σ Q := by
  intro p l e s m args below meth c D cy ad base H locs ls C w hl
  obtain ⟨hx, hb, hml, hown, hts, hr, hlk⟩ := id C
  have hl : lv_has ls 2 [(0, .int x0), (1, .int x1)] := hl
  refine lv_iload_n hx hb dX7_isPin_0 rfl (lv_at hl 0 rfl) ?_
  refine lv_if_lt (tgt := 24) hx hb dX7_isPin_1 (by decide) (fun c1 => ?_) (fun c1 => ?_)
  · have h := h.1 c1
    refine lv_iconst (v := 0) hx hb dX7_isPin_24 (by decide) ?_
    exact tk_retz C w dX7_isPin_25 rfl h
  · have h := h.2 c1
    refine lv_iload_n hx hb dX7_isPin_4 rfl (lv_at hl 0 rfl) ?_
    refine lv_bipush (v := 24) hx hb dX7_isPin_5 (by decide) ?_
    refine lv_icmp_ge (tgt := 24) hx hb dX7_isPin_7 (by decide) (fun c2 => ?_) (fun c2 => ?_)
    · have h := h.1 c2
      refine lv_iconst (v := 0) hx hb dX7_isPin_24 (by decide) ?_
      exact tk_retz C w dX7_isPin_25 rfl h
    · have h := h.2 c2
      refine lv_iload_n hx hb dX7_isPin_10 rfl (lv_at hl 1 rfl) ?_
      refine lv_if_lt (tgt := 24) hx hb dX7_isPin_11 (by decide) (fun c3 => ?_) (fun c3 => ?_)
      · have h := h.1 c3
        refine lv_iconst (v := 0) hx hb dX7_isPin_24 (by decide) ?_
        exact tk_retz C w dX7_isPin_25 rfl h
      · have h := h.2 c3
        refine lv_iload_n hx hb dX7_isPin_14 rfl (lv_at hl 1 rfl) ?_
        refine lv_bipush (v := 24) hx hb dX7_isPin_15 (by decide) ?_
        refine lv_icmp_ge (tgt := 24) hx hb dX7_isPin_17 (by decide) (fun c4 => ?_) (fun c4 => ?_)
        · have h := h.1 c4
          refine lv_iconst (v := 0) hx hb dX7_isPin_24 (by decide) ?_
          exact tk_retz C w dX7_isPin_25 rfl h
        · have h := h.2 c4
          refine lv_iconst (v := 1) hx hb dX7_isPin_20 (by decide) ?_
          refine lv_goto (tgt := 25) hx hb dX7_isPin_21 (by decide) ?_
          exact tk_retz C w dX7_isPin_25 rfl h
theorem e_X7_isPin (d : Nat) (x0 : Int32) (x1 : Int32) {σ : tk_S} {Q : Int32 → tk_S → Prop} (h : g_X7_isPin d 0 [(0, aI x0), (1, aI x1)] σ Q) : p_X7_isPin d [aI x0, aI x1] σ Q := tk_entry (by decide) rfl (fun _ => Nat.le_of_ble_eq_true rfl) (fun _ => rfl) h
abbrev g_X7_isTexture (d pc : Nat) (vals : List (Nat × tk_V)) (σ : tk_S) (Q : Int32 → tk_S → Prop) : Prop := tk_G RX7 cX7_isTexture 1 (some .boolean) d pc vals σ (tk_i Q)
set_option maxHeartbeats 4000000 in
set_option maxRecDepth 100000 in
theorem b_X7_isTexture_0 (d : Nat) (x0 : Int32) (σ : tk_S) (Q : Int32 → tk_S → Prop) (h : (x0 < 0 → Q 0 σ) ∧ (¬ x0 < 0 → (4 ≤ x0 → Q 0 σ) ∧ (¬ 4 ≤ x0 → Q 1 σ))) : g_X7_isTexture d 0 [(0, aI x0)] σ Q := by
  intro p l e s m args below meth c D cy ad base H locs ls C w hl
  obtain ⟨hx, hb, hml, hown, hts, hr, hlk⟩ := id C
  have hl : lv_has ls 1 [(0, .int x0)] := hl
  refine lv_iload_n hx hb dX7_isTexture_0 rfl (lv_at hl 0 rfl) ?_
  refine lv_if_lt (tgt := 13) hx hb dX7_isTexture_1 (by decide) (fun c1 => ?_) (fun c1 => ?_)
  · have h := h.1 c1
    refine lv_iconst (v := 0) hx hb dX7_isTexture_13 (by decide) ?_
    exact tk_retz C w dX7_isTexture_14 rfl h
  · have h := h.2 c1
    refine lv_iload_n hx hb dX7_isTexture_4 rfl (lv_at hl 0 rfl) ?_
    refine lv_iconst (v := 4) hx hb dX7_isTexture_5 (by decide) ?_
    refine lv_icmp_ge (tgt := 13) hx hb dX7_isTexture_6 (by decide) (fun c2 => ?_) (fun c2 => ?_)
    · have h := h.1 c2
      refine lv_iconst (v := 0) hx hb dX7_isTexture_13 (by decide) ?_
      exact tk_retz C w dX7_isTexture_14 rfl h
    · have h := h.2 c2
      refine lv_iconst (v := 1) hx hb dX7_isTexture_9 (by decide) ?_
      refine lv_goto (tgt := 14) hx hb dX7_isTexture_10 (by decide) ?_
      exact tk_retz C w dX7_isTexture_14 rfl h
theorem e_X7_isTexture (d : Nat) (x0 : Int32) {σ : tk_S} {Q : Int32 → tk_S → Prop} (h : g_X7_isTexture d 0 [(0, aI x0)] σ Q) : p_X7_isTexture d [aI x0] σ Q := tk_entry (by decide) rfl (fun _ => Nat.le_of_ble_eq_true rfl) (fun _ => rfl) h
abbrev g_X7_has (d pc : Nat) (vals : List (Nat × tk_V)) (σ : tk_S) (Q : Int32 → tk_S → Prop) : Prop := tk_G RX7 cX7_has 2 (some .boolean) d pc vals σ (tk_i Q)
set_option maxHeartbeats 4000000 in
set_option maxRecDepth 100000 in
theorem b_X7_has_0 (d : Nat) (x0 : Int32) (x1 : Int32) (σ : tk_S) (Q : Int32 → tk_S → Prop) (h : (((x0 >>> (x1 &&& 31)) &&& 1) = 0 → Q 0 σ) ∧ (¬ ((x0 >>> (x1 &&& 31)) &&& 1) = 0 → Q 1 σ)) : g_X7_has d 0 [(0, aI x0), (1, aI x1)] σ Q := by
  intro p l e s m args below meth c D cy ad base H locs ls C w hl
  obtain ⟨hx, hb, hml, hown, hts, hr, hlk⟩ := id C
  have hl : lv_has ls 2 [(0, .int x0), (1, .int x1)] := hl
  refine lv_iload_n hx hb dX7_has_0 rfl (lv_at hl 0 rfl) ?_
  refine lv_iload_n hx hb dX7_has_1 rfl (lv_at hl 1 rfl) ?_
  refine lv_ishr hx hb dX7_has_2 ?_
  refine lv_iconst (v := 1) hx hb dX7_has_3 (by decide) ?_
  refine lv_iand hx hb dX7_has_4 ?_
  refine lv_if_eq (tgt := 12) hx hb dX7_has_5 (by decide) (fun c1 => ?_) (fun c1 => ?_)
  · have h := h.1 c1
    refine lv_iconst (v := 0) hx hb dX7_has_12 (by decide) ?_
    exact tk_retz C w dX7_has_13 rfl h
  · have h := h.2 c1
    refine lv_iconst (v := 1) hx hb dX7_has_8 (by decide) ?_
    refine lv_goto (tgt := 13) hx hb dX7_has_9 (by decide) ?_
    exact tk_retz C w dX7_has_13 rfl h
theorem e_X7_has (d : Nat) (x0 : Int32) (x1 : Int32) {σ : tk_S} {Q : Int32 → tk_S → Prop} (h : g_X7_has d 0 [(0, aI x0), (1, aI x1)] σ Q) : p_X7_has d [aI x0, aI x1] σ Q := tk_entry (by decide) rfl (fun _ => Nat.le_of_ble_eq_true rfl) (fun _ => rfl) h
abbrev g_X7_isShape (d pc : Nat) (vals : List (Nat × tk_V)) (σ : tk_S) (Q : Int32 → tk_S → Prop) : Prop := tk_G RX7 cX7_isShape 2 (some .boolean) d pc vals σ (tk_i Q)
set_option maxHeartbeats 4000000 in
set_option maxRecDepth 100000 in
theorem b_X7_isShape_0 (d : Nat) (x1 : Int32) (σ : tk_S) (Q : Int32 → tk_S → Prop) (h : (x1 < 0 → Q 0 σ) ∧ (¬ x1 < 0 → ((σ.1 0 1) ≤ x1 → Q 0 σ) ∧ (¬ (σ.1 0 1) ≤ x1 → Q 1 σ))) : g_X7_isShape d 0 [(0, aN 0), (1, aI x1)] σ Q := by
  intro p l e s m args below meth c D cy ad base H locs ls C w hl
  obtain ⟨hx, hb, hml, hown, hts, hr, hlk⟩ := id C
  have hl : lv_has ls 2 [(0, .ref (ad 0)), (1, .int x1)] := hl
  refine lv_iload_n hx hb dX7_isShape_0 rfl (lv_at hl 1 rfl) ?_
  refine lv_if_lt (tgt := 16) hx hb dX7_isShape_1 (by decide) (fun c1 => ?_) (fun c1 => ?_)
  · have h := h.1 c1
    refine lv_iconst (v := 0) hx hb dX7_isShape_16 (by decide) ?_
    exact tk_retz C w dX7_isShape_17 rfl h
  · have h := h.2 c1
    refine lv_iload_n hx hb dX7_isShape_4 rfl (lv_at hl 1 rfl) ?_
    refine lv_aload_n hx hb dX7_isShape_5 rfl (lv_at hl 0 rfl) ?_
    refine tk_get (k := 0) (v := .int (σ.1 0 1)) hx hb hts hown w rfl rfl inlX7 1 (by decide) mw_145 rfl dX7_isShape_6 ?_
    refine lv_icmp_ge (tgt := 16) hx hb dX7_isShape_9 (by decide) (fun c2 => ?_) (fun c2 => ?_)
    · have h := h.1 c2
      refine lv_iconst (v := 0) hx hb dX7_isShape_16 (by decide) ?_
      exact tk_retz C w dX7_isShape_17 rfl h
    · have h := h.2 c2
      refine lv_iconst (v := 1) hx hb dX7_isShape_12 (by decide) ?_
      refine lv_goto (tgt := 17) hx hb dX7_isShape_13 (by decide) ?_
      exact tk_retz C w dX7_isShape_17 rfl h
theorem e_X7_isShape (d : Nat) (x1 : Int32) {σ : tk_S} {Q : Int32 → tk_S → Prop} (h : g_X7_isShape d 0 [(0, aN 0), (1, aI x1)] σ Q) : p_X7_isShape d [aN 0, aI x1] σ Q := tk_entry (by decide) rfl (fun _ => Nat.le_of_ble_eq_true rfl) (fun _ => rfl) h
abbrev g_X7_canAdd (d pc : Nat) (vals : List (Nat × tk_V)) (σ : tk_S) (Q : Int32 → tk_S → Prop) : Prop := tk_G RX7 cX7_canAdd 2 (some .boolean) d pc vals σ (tk_i Q)
set_option maxHeartbeats 4000000 in
set_option maxRecDepth 100000 in
theorem b_X7_canAdd_0 (d : Nat) (x1 : Int32) (σ : tk_S) (Q : Int32 → tk_S → Prop) (h : (x1 < 1 → Q 0 σ) ∧ (¬ x1 < 1 → (9 < x1 → Q 0 σ) ∧ (¬ 9 < x1 → (12 ≤ (σ.1 0 1) → Q 0 σ) ∧ (¬ 12 ≤ (σ.1 0 1) → Q 1 σ)))) : g_X7_canAdd d 0 [(0, aN 0), (1, aI x1)] σ Q := by
  intro p l e s m args below meth c D cy ad base H locs ls C w hl
  obtain ⟨hx, hb, hml, hown, hts, hr, hlk⟩ := id C
  have hl : lv_has ls 2 [(0, .ref (ad 0)), (1, .int x1)] := hl
  refine lv_iload_n hx hb dX7_canAdd_0 rfl (lv_at hl 1 rfl) ?_
  refine lv_iconst (v := 1) hx hb dX7_canAdd_1 (by decide) ?_
  refine lv_icmp_lt (tgt := 24) hx hb dX7_canAdd_2 (by decide) (fun c1 => ?_) (fun c1 => ?_)
  · have h := h.1 c1
    refine lv_iconst (v := 0) hx hb dX7_canAdd_24 (by decide) ?_
    exact tk_retz C w dX7_canAdd_25 rfl h
  · have h := h.2 c1
    refine lv_iload_n hx hb dX7_canAdd_5 rfl (lv_at hl 1 rfl) ?_
    refine lv_bipush (v := 9) hx hb dX7_canAdd_6 (by decide) ?_
    refine lv_icmp_gt (tgt := 24) hx hb dX7_canAdd_8 (by decide) (fun c2 => ?_) (fun c2 => ?_)
    · have h := h.1 c2
      refine lv_iconst (v := 0) hx hb dX7_canAdd_24 (by decide) ?_
      exact tk_retz C w dX7_canAdd_25 rfl h
    · have h := h.2 c2
      refine lv_aload_n hx hb dX7_canAdd_11 rfl (lv_at hl 0 rfl) ?_
      refine tk_get (k := 0) (v := .int (σ.1 0 1)) hx hb hts hown w rfl rfl inlX7 1 (by decide) mw_145 rfl dX7_canAdd_12 ?_
      refine lv_bipush (v := 12) hx hb dX7_canAdd_15 (by decide) ?_
      refine lv_icmp_ge (tgt := 24) hx hb dX7_canAdd_17 (by decide) (fun c3 => ?_) (fun c3 => ?_)
      · have h := h.1 c3
        refine lv_iconst (v := 0) hx hb dX7_canAdd_24 (by decide) ?_
        exact tk_retz C w dX7_canAdd_25 rfl h
      · have h := h.2 c3
        refine lv_iconst (v := 1) hx hb dX7_canAdd_20 (by decide) ?_
        refine lv_goto (tgt := 25) hx hb dX7_canAdd_21 (by decide) ?_
        exact tk_retz C w dX7_canAdd_25 rfl h
theorem e_X7_canAdd (d : Nat) (x1 : Int32) {σ : tk_S} {Q : Int32 → tk_S → Prop} (h : g_X7_canAdd d 0 [(0, aN 0), (1, aI x1)] σ Q) : p_X7_canAdd d [aN 0, aI x1] σ Q := tk_entry (by decide) rfl (fun _ => Nat.le_of_ble_eq_true rfl) (fun _ => rfl) h
abbrev g_X7_canSimplify (d pc : Nat) (vals : List (Nat × tk_V)) (σ : tk_S) (Q : Int32 → tk_S → Prop) : Prop := tk_G RX7 cX7_canSimplify 3 (some .boolean) d pc vals σ (tk_i Q)
set_option maxHeartbeats 4000000 in
set_option maxRecDepth 100000 in
theorem b_X7_canSimplify_0 (d : Nat) (x1 : Int32) (x2 : Int32) (σ : tk_S) (Q : Int32 → tk_S → Prop) (h : p_X7_isShape d [aN 0, aI x1] σ (fun y3 σ2 => (y3 = 0 → Q 0 σ2) ∧ (¬ y3 = 0 → vp_in x1 12 ∧ ((¬ (σ2.1 (1 + 71 + 5 * Int32.toNatClampNeg x1) 0) = 0 → Q 0 σ2) ∧ ((σ2.1 (1 + 71 + 5 * Int32.toNatClampNeg x1) 0) = 0 → (x2 < 0 → Q 0 σ2) ∧ (¬ x2 < 0 → (30 < x2 → Q 0 σ2) ∧ (¬ 30 < x2 → Q 1 σ2))))))) : g_X7_canSimplify (d + 1) 0 [(0, aN 0), (1, aI x1), (2, aI x2)] σ Q := by
  intro p l e s m args below meth c D cy ad base H locs ls C w hl
  obtain ⟨hx, hb, hml, hown, hts, hr, hlk⟩ := id C
  have hl : lv_has ls 3 [(0, .ref (ad 0)), (1, .int x1), (2, .int x2)] := hl
  refine lv_aload_n hx hb dX7_canSimplify_0 rfl (lv_at hl 0 rfl) ?_
  refine lv_iload_n hx hb dX7_canSimplify_1 rfl (lv_at hl 1 rfl) ?_
  refine tk_cV C w (k := 0) rfl rfl (as := [aI x1]) (rest := []) mw_306 mw_2 mw_303 mw_304 mw_305 hd_X7_isShape (by decide) hl.1 (Nat.le_of_ble_eq_true rfl) rfl dX7_canSimplify_2 h (fun r1 σ2 H locs hq w => ?_)
  obtain ⟨y3, rfl, h⟩ := hq
  refine W.eq (g2 := F0 m 5 ls [.int y3]) rfl ?_
  refine lv_if_eq (tgt := 34) hx hb dX7_canSimplify_5 (by decide) (fun c4 => ?_) (fun c4 => ?_)
  · have h := h.1 c4
    refine lv_iconst (v := 0) hx hb dX7_canSimplify_34 (by decide) ?_
    exact tk_retz C w dX7_canSimplify_35 rfl h
  · have h := h.2 c4
    refine lv_aload_n hx hb dX7_canSimplify_8 rfl (lv_at hl 0 rfl) ?_
    refine tk_get (k := 0) (v := .ref (ad 1)) hx hb hts hown w rfl rfl inlX7 0 (by decide) mw_13 rfl dX7_canSimplify_9 ?_
    refine lv_iload_n hx hb dX7_canSimplify_12 rfl (lv_at hl 1 rfl) ?_
    obtain ⟨hi5, h⟩ := h
    refine tk_aald (k := 1) (t := 0) (ty := .object "TouchSheet$Shape") hx hb w rfl (by decide) rfl rfl hi5 dX7_canSimplify_13 ?_
    refine tk_get (k := 1 + 71 + 5 * Int32.toNatClampNeg x1) (v := .int (σ2.1 (1 + 71 + 5 * Int32.toNatClampNeg x1) 0)) hx hb hts hown w (tk_r1 hi5) rfl inlX3 0 (by decide) mw_351 rfl dX7_canSimplify_14 ?_
    refine lv_if_ne (tgt := 34) hx hb dX7_canSimplify_17 (by decide) (fun c6 => ?_) (fun c6 => ?_)
    · have h := h.1 c6
      refine lv_iconst (v := 0) hx hb dX7_canSimplify_34 (by decide) ?_
      exact tk_retz C w dX7_canSimplify_35 rfl h
    · have h := h.2 c6
      refine lv_iload_n hx hb dX7_canSimplify_20 rfl (lv_at hl 2 rfl) ?_
      refine lv_if_lt (tgt := 34) hx hb dX7_canSimplify_21 (by decide) (fun c7 => ?_) (fun c7 => ?_)
      · have h := h.1 c7
        refine lv_iconst (v := 0) hx hb dX7_canSimplify_34 (by decide) ?_
        exact tk_retz C w dX7_canSimplify_35 rfl h
      · have h := h.2 c7
        refine lv_iload_n hx hb dX7_canSimplify_24 rfl (lv_at hl 2 rfl) ?_
        refine lv_bipush (v := 30) hx hb dX7_canSimplify_25 (by decide) ?_
        refine lv_icmp_gt (tgt := 34) hx hb dX7_canSimplify_27 (by decide) (fun c8 => ?_) (fun c8 => ?_)
        · have h := h.1 c8
          refine lv_iconst (v := 0) hx hb dX7_canSimplify_34 (by decide) ?_
          exact tk_retz C w dX7_canSimplify_35 rfl h
        · have h := h.2 c8
          refine lv_iconst (v := 1) hx hb dX7_canSimplify_30 (by decide) ?_
          refine lv_goto (tgt := 35) hx hb dX7_canSimplify_31 (by decide) ?_
          exact tk_retz C w dX7_canSimplify_35 rfl h
theorem e_X7_canSimplify (d : Nat) (x1 : Int32) (x2 : Int32) {σ : tk_S} {Q : Int32 → tk_S → Prop} (h : g_X7_canSimplify d 0 [(0, aN 0), (1, aI x1), (2, aI x2)] σ Q) : p_X7_canSimplify d [aN 0, aI x1, aI x2] σ Q := tk_entry (by decide) rfl (fun _ => Nat.le_of_ble_eq_true rfl) (fun _ => rfl) h
abbrev g_X7_finish (d pc : Nat) (vals : List (Nat × tk_V)) (σ : tk_S) (Q : Int32 → tk_S → Prop) : Prop := tk_G RX7 cX7_finish 3 (some .int) d pc vals σ (tk_i Q)
set_option maxHeartbeats 4000000 in
set_option maxRecDepth 100000 in
theorem b_X7_finish_0 (d : Nat) (k1 : Nat) (h_1 : tk_sh k1 = tk_shape) (σ : tk_S) (Q : Int32 → tk_S → Prop) (h : ∀ z1 : Int32, z1 = σ.1 0 1 → (p_X3_draw d [aN k1] σ (fun σ3 => p_X7_measure d [aN 0, aI z1] (tk_up σ3 0 1 ((σ3.1 0 1) + 1)) (fun σ5 => p_X7_forgetAnswers d [aN 0] σ5 (fun σ7 => Q z1 σ7))))) : g_X7_finish (d + 1) 0 [(0, aN 0), (1, aN k1)] σ Q := by
  intro p l e s m args below meth c D cy ad base H locs ls C w hl
  obtain ⟨hx, hb, hml, hown, hts, hr, hlk⟩ := id C
  have hl : lv_has ls 3 [(0, .ref (ad 0)), (1, .ref (ad k1))] := hl
  refine lv_aload_n hx hb dX7_finish_0 rfl (lv_at hl 0 rfl) ?_
  refine tk_get (k := 0) (v := .int (σ.1 0 1)) hx hb hts hown w rfl rfl inlX7 1 (by decide) mw_145 rfl dX7_finish_1 ?_
  refine lv_topi (fun z1 e_z1 => ?_)
  have h := h z1 e_z1
  refine lv_istore_n (lv' := [(2, .int z1), (0, .ref (ad 0)), (1, .ref (ad k1))]) hx hb dX7_finish_4 rfl hl (by decide) rfl (fun ls hl => ?_)
  refine lv_aload_n hx hb dX7_finish_5 rfl (lv_at hl 2 rfl) ?_
  refine tk_cV C w (k := k1) h_1 rfl (as := []) (rest := []) mw_168 mw_48 mw_165 mw_166 mw_167 hd_X3_draw (by decide) hl.1 (Nat.le_of_ble_eq_true rfl) rfl dX7_finish_6 h (fun r2 σ3 H locs hq w => ?_)
  obtain ⟨rfl, h⟩ := hq
  refine W.eq (g2 := F0 m 9 ls []) rfl ?_
  refine lv_aload_n hx hb dX7_finish_9 rfl (lv_at hl 1 rfl) ?_
  refine lv_dup hx hb dX7_finish_10 rfl ?_
  refine tk_get (k := 0) (v := .int (σ3.1 0 1)) hx hb hts hown w rfl rfl inlX7 1 (by decide) mw_145 rfl dX7_finish_11 ?_
  refine lv_iconst (v := 1) hx hb dX7_finish_14 (by decide) ?_
  refine lv_iadd hx hb dX7_finish_15 ?_
  refine tk_puti (k := 0) (ty := .int) hx hb hts hown w rfl rfl inlX7 tyX7 tyX7_ok nmX7 1 (by decide) mw_145 rfl rfl (by decide +kernel) rfl rfl dX7_finish_16 (fun H locs w => ?_)
  refine lv_aload_n hx hb dX7_finish_19 rfl (lv_at hl 1 rfl) ?_
  refine lv_iload_n hx hb dX7_finish_20 rfl (lv_at hl 0 rfl) ?_
  refine tk_cV C w (k := 0) rfl rfl (as := [aI z1]) (rest := []) mw_208 mw_2 mw_205 mw_206 mw_207 hd_X7_measure (by decide) hl.1 (Nat.le_of_ble_eq_true rfl) rfl dX7_finish_21 h (fun r4 σ5 H locs hq w => ?_)
  obtain ⟨rfl, h⟩ := hq
  refine W.eq (g2 := F0 m 24 ls []) rfl ?_
  refine lv_aload_n hx hb dX7_finish_24 rfl (lv_at hl 1 rfl) ?_
  refine tk_cV C w (k := 0) rfl rfl (as := []) (rest := []) mw_232 mw_2 mw_229 mw_230 mw_231 hd_X7_forgetAnswers (by decide) hl.1 (Nat.le_of_ble_eq_true rfl) rfl dX7_finish_25 h (fun r6 σ7 H locs hq w => ?_)
  obtain ⟨rfl, h⟩ := hq
  refine W.eq (g2 := F0 m 28 ls []) rfl ?_
  refine lv_iload_n hx hb dX7_finish_28 rfl (lv_at hl 0 rfl) ?_
  exact tk_reti C w dX7_finish_29 h
theorem e_X7_finish (d : Nat) (k1 : Nat) {σ : tk_S} {Q : Int32 → tk_S → Prop} (h : g_X7_finish d 0 [(0, aN 0), (1, aN k1)] σ Q) : p_X7_finish d [aN 0, aN k1] σ Q := tk_entry (by decide) rfl (fun _ => Nat.le_of_ble_eq_true rfl) (fun _ => rfl) h
abbrev g_X7_forgetAnswers (d pc : Nat) (vals : List (Nat × tk_V)) (σ : tk_S) (Q : tk_S → Prop) : Prop := tk_G RX7 cX7_forgetAnswers 1 none d pc vals σ (tk_v Q)
set_option maxHeartbeats 4000000 in
set_option maxRecDepth 100000 in
theorem b_X7_forgetAnswers_0 (d : Nat)  (σ : tk_S) (Q : tk_S → Prop) (h : ∀ σ1 : tk_S, σ1 = tk_up (tk_up σ 0 14 0) 0 15 0 → Q (tk_up σ1 0 16 0)) : g_X7_forgetAnswers d 0 [(0, aN 0)] σ Q := by
  intro p l e s m args below meth c D cy ad base H locs ls C w hl
  obtain ⟨hx, hb, hml, hown, hts, hr, hlk⟩ := id C
  have hl : lv_has ls 1 [(0, .ref (ad 0))] := hl
  refine lv_aload_n hx hb dX7_forgetAnswers_0 rfl (lv_at hl 0 rfl) ?_
  refine lv_iconst (v := 0) hx hb dX7_forgetAnswers_1 (by decide) ?_
  refine tk_puti (k := 0) (ty := .boolean) hx hb hts hown w rfl rfl inlX7 tyX7 tyX7_ok nmX7 14 (by decide) mw_233 rfl rfl (by decide +kernel) rfl rfl dX7_forgetAnswers_2 (fun H locs w => ?_)
  refine lv_aload_n hx hb dX7_forgetAnswers_5 rfl (lv_at hl 0 rfl) ?_
  refine lv_iconst (v := 0) hx hb dX7_forgetAnswers_6 (by decide) ?_
  refine tk_puti (k := 0) (ty := .boolean) hx hb hts hown w rfl rfl inlX7 tyX7 tyX7_ok nmX7 15 (by decide) mw_234 rfl rfl (by decide +kernel) rfl rfl dX7_forgetAnswers_7 (fun H locs w => ?_)
  generalize e_σ1 : tk_up (tk_up σ 0 14 0) 0 15 0 = σ1 at w
  have h := h σ1 e_σ1.symm
  refine lv_aload_n hx hb dX7_forgetAnswers_10 rfl (lv_at hl 0 rfl) ?_
  refine lv_iconst (v := 0) hx hb dX7_forgetAnswers_11 (by decide) ?_
  refine tk_puti (k := 0) (ty := .boolean) hx hb hts hown w rfl rfl inlX7 tyX7 tyX7_ok nmX7 16 (by decide) mw_235 rfl rfl (by decide +kernel) rfl rfl dX7_forgetAnswers_12 (fun H locs w => ?_)
  exact tk_retv C w dX7_forgetAnswers_15 h
theorem e_X7_forgetAnswers (d : Nat)  {σ : tk_S} {Q : tk_S → Prop} (h : g_X7_forgetAnswers d 0 [(0, aN 0)] σ Q) : p_X7_forgetAnswers d [aN 0] σ Q := tk_entry (by decide) rfl (fun _ => Nat.le_of_ble_eq_true rfl) (fun _ => rfl) h
abbrev g_X7_measure (d pc : Nat) (vals : List (Nat × tk_V)) (σ : tk_S) (Q : tk_S → Prop) : Prop := tk_G RX7 cX7_measure 5 none d pc vals σ (tk_v Q)
set_option maxHeartbeats 4000000 in
set_option maxRecDepth 100000 in
theorem b_X7_measure_40 (d : Nat) (x1 : Int32) (x2 : Int32) (x3 : Int32) (x4 : Int32) (σ : tk_S) (Q : tk_S → Prop) (h : ((σ.1 0 1) ≤ x4 → p_X2_swell d [aN 18] σ (fun σ3 => g_X7_measure (d + 1) 27 [(0, aN 0), (1, aI x1), (2, aI x2), (3, aI (x3 + 1))] σ3 Q)) ∧ (¬ (σ.1 0 1) ≤ x4 → p_X7_has d [aI x2, aI x4] σ (fun y6 σ5 => (y6 = 0 → g_X7_measure (d + 1) 40 [(0, aN 0), (1, aI x1), (2, aI x2), (3, aI x3), (4, aI (x4 + 1))] σ5 Q) ∧ (¬ y6 = 0 → vp_in x4 12 ∧ (p_X2_touch d [aN 18, aN ((1 + 71 + 5 * Int32.toNatClampNeg x4) + 3)] σ5 (fun y11 σ10 => (y11 = 0 → g_X7_measure (d + 1) 40 [(0, aN 0), (1, aI x1), (2, aI x2), (3, aI x3), (4, aI (x4 + 1))] σ10 Q) ∧ (¬ y11 = 0 → ∀ z13 : Int32, z13 = x2 &&& (((1 : Int32) <<< (x4 &&& 31)) ^^^ (-1)) → (vp_in x1 12 ∧ (vp_in x4 12 ∧ (vp_in x4 12 ∧ (vp_in x1 12 ∧ (∀ σ18 : tk_S, σ18 = tk_up (tk_up σ10 (5 + 1 + 1 * Int32.toNatClampNeg x1) (Int32.toNatClampNeg x4) x3) (5 + 1 + 1 * Int32.toNatClampNeg x4) (Int32.toNatClampNeg x1) x3 → g_X7_measure (d + 1) 40 [(0, aN 0), (1, aI x1), (2, aI z13), (3, aI x3), (4, aI (x4 + 1))] σ18 Q)))))))))))) : g_X7_measure (d + 1) 40 [(0, aN 0), (1, aI x1), (2, aI x2), (3, aI x3), (4, aI x4)] σ Q := by
  intro p l e s m args below meth c D cy ad base H locs ls C w hl
  obtain ⟨hx, hb, hml, hown, hts, hr, hlk⟩ := id C
  have hl : lv_has ls 5 [(0, .ref (ad 0)), (1, .int x1), (2, .int x2), (3, .int x3), (4, .int x4)] := hl
  refine lv_iload hx hb dX7_measure_40 (lv_at hl 4 rfl) ?_
  refine lv_aload_n hx hb dX7_measure_42 rfl (lv_at hl 0 rfl) ?_
  refine tk_get (k := 0) (v := .int (σ.1 0 1)) hx hb hts hown w rfl rfl inlX7 1 (by decide) mw_145 rfl dX7_measure_43 ?_
  refine lv_icmp_ge (tgt := 113) hx hb dX7_measure_46 (by decide) (fun c1 => ?_) (fun c1 => ?_)
  · have h := h.1 c1
    refine lv_aload_n hx hb dX7_measure_113 rfl (lv_at hl 0 rfl) ?_
    refine tk_get (k := 0) (v := .ref (ad 18)) hx hb hts hown w rfl rfl inlX7 8 (by decide) mw_24 rfl dX7_measure_114 ?_
    refine tk_cV C w (k := 18) rfl rfl (as := []) (rest := []) mw_224 mw_23 mw_221 mw_222 mw_223 hd_X2_swell (by decide) hl.1 (Nat.le_of_ble_eq_true rfl) rfl dX7_measure_117 h (fun r2 σ3 H locs hq w => ?_)
    obtain ⟨rfl, h⟩ := hq
    refine W.eq (g2 := F0 m 120 ls []) rfl ?_
    refine lv_iinc (v := x3 + 1) (lv' := [(3, .int (x3 + 1)), (0, .ref (ad 0)), (1, .int x1), (2, .int x2), (4, .int x4)]) hx hb dX7_measure_120 hl (k := 3) rfl rfl (by decide) rfl (fun ls hl => ?_)
    refine lv_goto (tgt := 27) hx hb dX7_measure_123 (by decide) ?_
    exact h _ _ _ _ _ _ _ _ _ _ _ _ _ _ _ _ C w (lv_sub hl [1, 2, 3, 0] rfl)
  · have h := h.2 c1
    refine lv_iload_n hx hb dX7_measure_49 rfl (lv_at hl 2 rfl) ?_
    refine lv_iload hx hb dX7_measure_50 (lv_at hl 4 rfl) ?_
    refine tk_cS C w (as := [aI x2, aI x4]) (rest := []) mw_216 mw_2 mw_214 mw_215 hd_X7_has (by decide) hl.1 (Nat.le_of_ble_eq_true rfl) rfl dX7_measure_52 h (fun r4 σ5 H locs hq w => ?_)
    obtain ⟨y6, rfl, h⟩ := hq
    refine W.eq (g2 := F0 m 55 ls [.int y6]) rfl ?_
    refine lv_if_eq (tgt := 107) hx hb dX7_measure_55 (by decide) (fun c7 => ?_) (fun c7 => ?_)
    · have h := h.1 c7
      refine lv_iinc (v := x4 + 1) (lv' := [(4, .int (x4 + 1)), (0, .ref (ad 0)), (1, .int x1), (2, .int x2), (3, .int x3)]) hx hb dX7_measure_107 hl (k := 4) rfl rfl (by decide) rfl (fun ls hl => ?_)
      refine lv_goto (tgt := 40) hx hb dX7_measure_110 (by decide) ?_
      exact h _ _ _ _ _ _ _ _ _ _ _ _ _ _ _ _ C w (lv_sub hl [1, 2, 3, 4, 0] rfl)
    · have h := h.2 c7
      refine lv_aload_n hx hb dX7_measure_58 rfl (lv_at hl 0 rfl) ?_
      refine tk_get (k := 0) (v := .ref (ad 18)) hx hb hts hown w rfl rfl inlX7 8 (by decide) mw_24 rfl dX7_measure_59 ?_
      refine lv_aload_n hx hb dX7_measure_62 rfl (lv_at hl 0 rfl) ?_
      refine tk_get (k := 0) (v := .ref (ad 1)) hx hb hts hown w rfl rfl inlX7 0 (by decide) mw_13 rfl dX7_measure_63 ?_
      refine lv_iload hx hb dX7_measure_66 (lv_at hl 4 rfl) ?_
      obtain ⟨hi8, h⟩ := h
      refine tk_aald (k := 1) (t := 0) (ty := .object "TouchSheet$Shape") hx hb w rfl (by decide) rfl rfl hi8 dX7_measure_68 ?_
      refine tk_get (k := 1 + 71 + 5 * Int32.toNatClampNeg x4) (v := .ref (ad ((1 + 71 + 5 * Int32.toNatClampNeg x4) + 3))) hx hb hts hown w (tk_r1 hi8) rfl inlX3 5 (by decide) mw_209 rfl dX7_measure_69 ?_
      refine tk_cV C w (k := 18) rfl rfl (as := [aN ((1 + 71 + 5 * Int32.toNatClampNeg x4) + 3)]) (rest := []) mw_220 mw_23 mw_217 mw_218 mw_219 hd_X2_touch (by decide) hl.1 (Nat.le_of_ble_eq_true rfl) rfl dX7_measure_72 h (fun r9 σ10 H locs hq w => ?_)
      obtain ⟨y11, rfl, h⟩ := hq
      refine W.eq (g2 := F0 m 75 ls [.int y11]) rfl ?_
      refine lv_if_eq (tgt := 107) hx hb dX7_measure_75 (by decide) (fun c12 => ?_) (fun c12 => ?_)
      · have h := h.1 c12
        refine lv_iinc (v := x4 + 1) (lv' := [(4, .int (x4 + 1)), (0, .ref (ad 0)), (1, .int x1), (2, .int x2), (3, .int x3)]) hx hb dX7_measure_107 hl (k := 4) rfl rfl (by decide) rfl (fun ls hl => ?_)
        refine lv_goto (tgt := 40) hx hb dX7_measure_110 (by decide) ?_
        exact h _ _ _ _ _ _ _ _ _ _ _ _ _ _ _ _ C w (lv_sub hl [1, 2, 3, 4, 0] rfl)
      · have h := h.2 c12
        refine lv_iload_n hx hb dX7_measure_78 rfl (lv_at hl 2 rfl) ?_
        refine lv_iconst (v := 1) hx hb dX7_measure_79 (by decide) ?_
        refine lv_iload hx hb dX7_measure_80 (lv_at hl 4 rfl) ?_
        refine lv_ishl hx hb dX7_measure_82 ?_
        refine lv_iconst (v := (-1)) hx hb dX7_measure_83 (by decide) ?_
        refine lv_ixor hx hb dX7_measure_84 ?_
        refine lv_iand hx hb dX7_measure_85 ?_
        refine lv_topi (fun z13 e_z13 => ?_)
        have h := h z13 e_z13
        refine lv_istore_n (lv' := [(2, .int z13), (0, .ref (ad 0)), (1, .int x1), (3, .int x3), (4, .int x4)]) hx hb dX7_measure_86 rfl hl (by decide) rfl (fun ls hl => ?_)
        refine lv_aload_n hx hb dX7_measure_87 rfl (lv_at hl 1 rfl) ?_
        refine tk_get (k := 0) (v := .ref (ad 5)) hx hb hts hown w rfl rfl inlX7 7 (by decide) mw_20 rfl dX7_measure_88 ?_
        refine lv_iload_n hx hb dX7_measure_91 rfl (lv_at hl 2 rfl) ?_
        obtain ⟨hi14, h⟩ := h
        refine tk_aald (k := 5) (t := 1) (ty := .array .int) hx hb w rfl (by decide) rfl rfl hi14 dX7_measure_92 ?_
        refine lv_iload hx hb dX7_measure_93 (lv_at hl 4 rfl) ?_
        refine lv_iload_n hx hb dX7_measure_95 rfl (lv_at hl 3 rfl) ?_
        obtain ⟨hi15, h⟩ := h
        refine tk_iast (k := 5 + 1 + 1 * Int32.toNatClampNeg x1) hx hb w (tk_r5 hi14) hi15 dX7_measure_96 (fun H locs w => ?_)
        refine lv_aload_n hx hb dX7_measure_97 rfl (lv_at hl 1 rfl) ?_
        refine tk_get (k := 0) (v := .ref (ad 5)) hx hb hts hown w rfl rfl inlX7 7 (by decide) mw_20 rfl dX7_measure_98 ?_
        refine lv_iload hx hb dX7_measure_101 (lv_at hl 4 rfl) ?_
        obtain ⟨hi16, h⟩ := h
        refine tk_aald (k := 5) (t := 1) (ty := .array .int) hx hb w rfl (by decide) rfl rfl hi16 dX7_measure_103 ?_
        refine lv_iload_n hx hb dX7_measure_104 rfl (lv_at hl 2 rfl) ?_
        refine lv_iload_n hx hb dX7_measure_105 rfl (lv_at hl 3 rfl) ?_
        obtain ⟨hi17, h⟩ := h
        refine tk_iast (k := 5 + 1 + 1 * Int32.toNatClampNeg x4) hx hb w (tk_r5 hi16) hi17 dX7_measure_106 (fun H locs w => ?_)
        generalize e_σ18 : tk_up (tk_up σ10 (5 + 1 + 1 * Int32.toNatClampNeg x1) (Int32.toNatClampNeg x4) x3) (5 + 1 + 1 * Int32.toNatClampNeg x4) (Int32.toNatClampNeg x1) x3 = σ18 at w
        have h := h σ18 e_σ18.symm
        refine lv_iinc (v := x4 + 1) (lv' := [(4, .int (x4 + 1)), (2, .int z13), (0, .ref (ad 0)), (1, .int x1), (3, .int x3)]) hx hb dX7_measure_107 hl (k := 4) rfl rfl (by decide) rfl (fun ls hl => ?_)
        refine lv_goto (tgt := 40) hx hb dX7_measure_110 (by decide) ?_
        exact h _ _ _ _ _ _ _ _ _ _ _ _ _ _ _ _ C w (lv_sub hl [2, 3, 1, 4, 0] rfl)
set_option maxHeartbeats 4000000 in
set_option maxRecDepth 100000 in
theorem b_X7_measure_27 (d : Nat) (x1 : Int32) (x2 : Int32) (x3 : Int32) (σ : tk_S) (Q : tk_S → Prop) (h : (24 ≤ x3 → Q σ) ∧ (¬ 24 ≤ x3 → (x2 = 0 → Q σ) ∧ (¬ x2 = 0 → g_X7_measure (d + 1) 40 [(0, aN 0), (1, aI x1), (2, aI x2), (3, aI x3), (4, aI 0)] σ Q))) : g_X7_measure (d + 1) 27 [(0, aN 0), (1, aI x1), (2, aI x2), (3, aI x3)] σ Q := by
  intro p l e s m args below meth c D cy ad base H locs ls C w hl
  obtain ⟨hx, hb, hml, hown, hts, hr, hlk⟩ := id C
  have hl : lv_has ls 5 [(0, .ref (ad 0)), (1, .int x1), (2, .int x2), (3, .int x3)] := hl
  refine lv_iload_n hx hb dX7_measure_27 rfl (lv_at hl 3 rfl) ?_
  refine lv_bipush (v := 24) hx hb dX7_measure_28 (by decide) ?_
  refine lv_icmp_ge (tgt := 126) hx hb dX7_measure_30 (by decide) (fun c1 => ?_) (fun c1 => ?_)
  · have h := h.1 c1
    exact tk_retv C w dX7_measure_126 h
  · have h := h.2 c1
    refine lv_iload_n hx hb dX7_measure_33 rfl (lv_at hl 2 rfl) ?_
    refine lv_if_eq (tgt := 126) hx hb dX7_measure_34 (by decide) (fun c2 => ?_) (fun c2 => ?_)
    · have h := h.1 c2
      exact tk_retv C w dX7_measure_126 h
    · have h := h.2 c2
      refine lv_iconst (v := 0) hx hb dX7_measure_37 (by decide) ?_
      refine lv_istore (lv' := [(4, .int 0), (0, .ref (ad 0)), (1, .int x1), (2, .int x2), (3, .int x3)]) hx hb dX7_measure_38 hl (by decide) rfl (fun ls hl => ?_)
      exact h _ _ _ _ _ _ _ _ _ _ _ _ _ _ _ _ C w (lv_sub hl [1, 2, 3, 4, 0] rfl)
set_option maxHeartbeats 4000000 in
set_option maxRecDepth 100000 in
theorem b_X7_measure_0 (d : Nat) (x1 : Int32) (σ : tk_S) (Q : tk_S → Prop) (h : vp_in x1 12 ∧ (p_X2_copy d [aN 18, aN ((1 + 71 + 5 * Int32.toNatClampNeg x1) + 3)] σ (fun σ3 => ∀ z4 : Int32, z4 = ((1 : Int32) <<< ((σ3.1 0 1) &&& 31)) - 1 → (g_X7_measure (d + 1) 27 [(0, aN 0), (1, aI x1), (2, aI z4), (3, aI 0)] σ3 Q)))) : g_X7_measure (d + 1) 0 [(0, aN 0), (1, aI x1)] σ Q := by
  intro p l e s m args below meth c D cy ad base H locs ls C w hl
  obtain ⟨hx, hb, hml, hown, hts, hr, hlk⟩ := id C
  have hl : lv_has ls 5 [(0, .ref (ad 0)), (1, .int x1)] := hl
  refine lv_aload_n hx hb dX7_measure_0 rfl (lv_at hl 0 rfl) ?_
  refine tk_get (k := 0) (v := .ref (ad 18)) hx hb hts hown w rfl rfl inlX7 8 (by decide) mw_24 rfl dX7_measure_1 ?_
  refine lv_aload_n hx hb dX7_measure_4 rfl (lv_at hl 0 rfl) ?_
  refine tk_get (k := 0) (v := .ref (ad 1)) hx hb hts hown w rfl rfl inlX7 0 (by decide) mw_13 rfl dX7_measure_5 ?_
  refine lv_iload_n hx hb dX7_measure_8 rfl (lv_at hl 1 rfl) ?_
  obtain ⟨hi1, h⟩ := h
  refine tk_aald (k := 1) (t := 0) (ty := .object "TouchSheet$Shape") hx hb w rfl (by decide) rfl rfl hi1 dX7_measure_9 ?_
  refine tk_get (k := 1 + 71 + 5 * Int32.toNatClampNeg x1) (v := .ref (ad ((1 + 71 + 5 * Int32.toNatClampNeg x1) + 3))) hx hb hts hown w (tk_r1 hi1) rfl inlX3 5 (by decide) mw_209 rfl dX7_measure_10 ?_
  refine tk_cV C w (k := 18) rfl rfl (as := [aN ((1 + 71 + 5 * Int32.toNatClampNeg x1) + 3)]) (rest := []) mw_213 mw_23 mw_210 mw_211 mw_212 hd_X2_copy (by decide) hl.1 (Nat.le_of_ble_eq_true rfl) rfl dX7_measure_13 h (fun r2 σ3 H locs hq w => ?_)
  obtain ⟨rfl, h⟩ := hq
  refine W.eq (g2 := F0 m 16 ls []) rfl ?_
  refine lv_iconst (v := 1) hx hb dX7_measure_16 (by decide) ?_
  refine lv_aload_n hx hb dX7_measure_17 rfl (lv_at hl 0 rfl) ?_
  refine tk_get (k := 0) (v := .int (σ3.1 0 1)) hx hb hts hown w rfl rfl inlX7 1 (by decide) mw_145 rfl dX7_measure_18 ?_
  refine lv_ishl hx hb dX7_measure_21 ?_
  refine lv_iconst (v := 1) hx hb dX7_measure_22 (by decide) ?_
  refine lv_isub hx hb dX7_measure_23 ?_
  refine lv_topi (fun z4 e_z4 => ?_)
  have h := h z4 e_z4
  refine lv_istore_n (lv' := [(2, .int z4), (0, .ref (ad 0)), (1, .int x1)]) hx hb dX7_measure_24 rfl hl (by decide) rfl (fun ls hl => ?_)
  refine lv_iconst (v := 0) hx hb dX7_measure_25 (by decide) ?_
  refine lv_istore_n (lv' := [(3, .int 0), (2, .int z4), (0, .ref (ad 0)), (1, .int x1)]) hx hb dX7_measure_26 rfl hl (by decide) rfl (fun ls hl => ?_)
  exact h _ _ _ _ _ _ _ _ _ _ _ _ _ _ _ _ C w (lv_sub hl [2, 3, 1, 0] rfl)
theorem e_X7_measure (d : Nat) (x1 : Int32) {σ : tk_S} {Q : tk_S → Prop} (h : g_X7_measure d 0 [(0, aN 0), (1, aI x1)] σ Q) : p_X7_measure d [aN 0, aI x1] σ Q := tk_entry (by decide) rfl (fun _ => Nat.le_of_ble_eq_true rfl) (fun _ => rfl) h
abbrev g_X7_lookWhatIsNear (d pc : Nat) (vals : List (Nat × tk_V)) (σ : tk_S) (Q : tk_S → Prop) : Prop := tk_G RX7 cX7_lookWhatIsNear 2 none d pc vals σ (tk_v Q)
set_option maxHeartbeats 4000000 in
set_option maxRecDepth 100000 in
theorem b_X7_lookWhatIsNear_2 (d : Nat) (x1 : Int32) (σ : tk_S) (Q : tk_S → Prop) (h : ((σ.1 0 1) ≤ x1 → Q σ) ∧ (¬ (σ.1 0 1) ≤ x1 → p_X7_within d [aN 0, aI x1, aI ((σ.1 0 5) - 1)] σ (fun y4 σ3 => vp_in x1 12 ∧ (vp_in x1 12 ∧ (g_X7_lookWhatIsNear (d + 1) 2 [(0, aN 0), (1, aI (x1 + 1))] (tk_up σ3 51 (Int32.toNatClampNeg x1) (y4 &&& ((σ3.1 4 (Int32.toNatClampNeg x1)) ^^^ (-1)))) Q))))) : g_X7_lookWhatIsNear (d + 1) 2 [(0, aN 0), (1, aI x1)] σ Q := by
  intro p l e s m args below meth c D cy ad base H locs ls C w hl
  obtain ⟨hx, hb, hml, hown, hts, hr, hlk⟩ := id C
  have hl : lv_has ls 2 [(0, .ref (ad 0)), (1, .int x1)] := hl
  refine lv_iload_n hx hb dX7_lookWhatIsNear_2 rfl (lv_at hl 1 rfl) ?_
  refine lv_aload_n hx hb dX7_lookWhatIsNear_3 rfl (lv_at hl 0 rfl) ?_
  refine tk_get (k := 0) (v := .int (σ.1 0 1)) hx hb hts hown w rfl rfl inlX7 1 (by decide) mw_145 rfl dX7_lookWhatIsNear_4 ?_
  refine lv_icmp_ge (tgt := 42) hx hb dX7_lookWhatIsNear_7 (by decide) (fun c1 => ?_) (fun c1 => ?_)
  · have h := h.1 c1
    exact tk_retv C w dX7_lookWhatIsNear_42 h
  · have h := h.2 c1
    refine lv_aload_n hx hb dX7_lookWhatIsNear_10 rfl (lv_at hl 0 rfl) ?_
    refine tk_get (k := 0) (v := .ref (ad 51)) hx hb hts hown w rfl rfl inlX7 13 (by decide) mw_41 rfl dX7_lookWhatIsNear_11 ?_
    refine lv_iload_n hx hb dX7_lookWhatIsNear_14 rfl (lv_at hl 1 rfl) ?_
    refine lv_aload_n hx hb dX7_lookWhatIsNear_15 rfl (lv_at hl 0 rfl) ?_
    refine lv_iload_n hx hb dX7_lookWhatIsNear_16 rfl (lv_at hl 1 rfl) ?_
    refine lv_aload_n hx hb dX7_lookWhatIsNear_17 rfl (lv_at hl 0 rfl) ?_
    refine tk_get (k := 0) (v := .int (σ.1 0 5)) hx hb hts hown w rfl rfl inlX7 5 (by decide) mw_17 rfl dX7_lookWhatIsNear_18 ?_
    refine lv_iconst (v := 1) hx hb dX7_lookWhatIsNear_21 (by decide) ?_
    refine lv_isub hx hb dX7_lookWhatIsNear_22 ?_
    refine tk_cV C w (k := 0) rfl rfl (as := [aI x1, aI ((σ.1 0 5) - 1)]) (rest := [.int x1, .ref (ad 51)]) mw_486 mw_2 mw_483 mw_484 mw_485 hd_X7_within (by decide) hl.1 (Nat.le_of_ble_eq_true rfl) rfl dX7_lookWhatIsNear_23 h (fun r2 σ3 H locs hq w => ?_)
    obtain ⟨y4, rfl, h⟩ := hq
    refine W.eq (g2 := F0 m 26 ls [.int y4, .int x1, .ref (ad 51)]) rfl ?_
    refine lv_aload_n hx hb dX7_lookWhatIsNear_26 rfl (lv_at hl 0 rfl) ?_
    refine tk_get (k := 0) (v := .ref (ad 4)) hx hb hts hown w rfl rfl inlX7 6 (by decide) mw_18 rfl dX7_lookWhatIsNear_27 ?_
    refine lv_iload_n hx hb dX7_lookWhatIsNear_30 rfl (lv_at hl 1 rfl) ?_
    obtain ⟨hi5, h⟩ := h
    refine tk_iald (k := 4) hx hb w rfl hi5 dX7_lookWhatIsNear_31 ?_
    refine lv_iconst (v := (-1)) hx hb dX7_lookWhatIsNear_32 (by decide) ?_
    refine lv_ixor hx hb dX7_lookWhatIsNear_33 ?_
    refine lv_iand hx hb dX7_lookWhatIsNear_34 ?_
    obtain ⟨hi6, h⟩ := h
    refine tk_iast (k := 51) hx hb w rfl hi6 dX7_lookWhatIsNear_35 (fun H locs w => ?_)
    refine lv_iinc (v := x1 + 1) (lv' := [(1, .int (x1 + 1)), (0, .ref (ad 0))]) hx hb dX7_lookWhatIsNear_36 hl (k := 1) rfl rfl (by decide) rfl (fun ls hl => ?_)
    refine lv_goto (tgt := 2) hx hb dX7_lookWhatIsNear_39 (by decide) ?_
    exact h _ _ _ _ _ _ _ _ _ _ _ _ _ _ _ _ C w (lv_sub hl [1, 0] rfl)
set_option maxHeartbeats 4000000 in
set_option maxRecDepth 100000 in
theorem b_X7_lookWhatIsNear_0 (d : Nat)  (σ : tk_S) (Q : tk_S → Prop) (h : g_X7_lookWhatIsNear (d + 1) 2 [(0, aN 0), (1, aI 0)] σ Q) : g_X7_lookWhatIsNear (d + 1) 0 [(0, aN 0)] σ Q := by
  intro p l e s m args below meth c D cy ad base H locs ls C w hl
  obtain ⟨hx, hb, hml, hown, hts, hr, hlk⟩ := id C
  have hl : lv_has ls 2 [(0, .ref (ad 0))] := hl
  refine lv_iconst (v := 0) hx hb dX7_lookWhatIsNear_0 (by decide) ?_
  refine lv_istore_n (lv' := [(1, .int 0), (0, .ref (ad 0))]) hx hb dX7_lookWhatIsNear_1 rfl hl (by decide) rfl (fun ls hl => ?_)
  exact h _ _ _ _ _ _ _ _ _ _ _ _ _ _ _ _ C w (lv_sub hl [1, 0] rfl)
theorem e_X7_lookWhatIsNear (d : Nat)  {σ : tk_S} {Q : tk_S → Prop} (h : g_X7_lookWhatIsNear d 0 [(0, aN 0)] σ Q) : p_X7_lookWhatIsNear d [aN 0] σ Q := tk_entry (by decide) rfl (fun _ => Nat.le_of_ble_eq_true rfl) (fun _ => rfl) h
abbrev g_X7_within (d pc : Nat) (vals : List (Nat × tk_V)) (σ : tk_S) (Q : Int32 → tk_S → Prop) : Prop := tk_G RX7 cX7_within 5 (some .int) d pc vals σ (tk_i Q)
set_option maxHeartbeats 4000000 in
set_option maxRecDepth 100000 in
theorem b_X7_within_5 (d : Nat) (x1 : Int32) (x2 : Int32) (x3 : Int32) (x4 : Int32) (σ : tk_S) (Q : Int32 → tk_S → Prop) (h : ((σ.1 0 1) ≤ x4 → Q x3 σ) ∧ (¬ (σ.1 0 1) ≤ x4 → (x4 = x1 → g_X7_within d 5 [(0, aN 0), (1, aI x1), (2, aI x2), (3, aI x3), (4, aI (x4 + 1))] σ Q) ∧ (¬ x4 = x1 → vp_in x1 12 ∧ (vp_in x4 12 ∧ ((x2 < (σ.1 (5 + 1 + 1 * Int32.toNatClampNeg x1) (Int32.toNatClampNeg x4)) → g_X7_within d 5 [(0, aN 0), (1, aI x1), (2, aI x2), (3, aI x3), (4, aI (x4 + 1))] σ Q) ∧ (¬ x2 < (σ.1 (5 + 1 + 1 * Int32.toNatClampNeg x1) (Int32.toNatClampNeg x4)) → ∀ z6 : Int32, z6 = x3 ||| ((1 : Int32) <<< (x4 &&& 31)) → (g_X7_within d 5 [(0, aN 0), (1, aI x1), (2, aI x2), (3, aI z6), (4, aI (x4 + 1))] σ Q))))))) : g_X7_within d 5 [(0, aN 0), (1, aI x1), (2, aI x2), (3, aI x3), (4, aI x4)] σ Q := by
  intro p l e s m args below meth c D cy ad base H locs ls C w hl
  obtain ⟨hx, hb, hml, hown, hts, hr, hlk⟩ := id C
  have hl : lv_has ls 5 [(0, .ref (ad 0)), (1, .int x1), (2, .int x2), (3, .int x3), (4, .int x4)] := hl
  refine lv_iload hx hb dX7_within_5 (lv_at hl 4 rfl) ?_
  refine lv_aload_n hx hb dX7_within_7 rfl (lv_at hl 0 rfl) ?_
  refine tk_get (k := 0) (v := .int (σ.1 0 1)) hx hb hts hown w rfl rfl inlX7 1 (by decide) mw_145 rfl dX7_within_8 ?_
  refine lv_icmp_ge (tgt := 46) hx hb dX7_within_11 (by decide) (fun c1 => ?_) (fun c1 => ?_)
  · have h := h.1 c1
    refine lv_iload_n hx hb dX7_within_46 rfl (lv_at hl 3 rfl) ?_
    exact tk_reti C w dX7_within_47 h
  · have h := h.2 c1
    refine lv_iload hx hb dX7_within_14 (lv_at hl 4 rfl) ?_
    refine lv_iload_n hx hb dX7_within_16 rfl (lv_at hl 1 rfl) ?_
    refine lv_icmp_eq (tgt := 40) hx hb dX7_within_17 (by decide) (fun c2 => ?_) (fun c2 => ?_)
    · have h := h.1 c2
      refine lv_iinc (v := x4 + 1) (lv' := [(4, .int (x4 + 1)), (0, .ref (ad 0)), (1, .int x1), (2, .int x2), (3, .int x3)]) hx hb dX7_within_40 hl (k := 4) rfl rfl (by decide) rfl (fun ls hl => ?_)
      refine lv_goto (tgt := 5) hx hb dX7_within_43 (by decide) ?_
      exact h _ _ _ _ _ _ _ _ _ _ _ _ _ _ _ _ C w (lv_sub hl [1, 2, 3, 4, 0] rfl)
    · have h := h.2 c2
      refine lv_aload_n hx hb dX7_within_20 rfl (lv_at hl 0 rfl) ?_
      refine tk_get (k := 0) (v := .ref (ad 5)) hx hb hts hown w rfl rfl inlX7 7 (by decide) mw_20 rfl dX7_within_21 ?_
      refine lv_iload_n hx hb dX7_within_24 rfl (lv_at hl 1 rfl) ?_
      obtain ⟨hi3, h⟩ := h
      refine tk_aald (k := 5) (t := 1) (ty := .array .int) hx hb w rfl (by decide) rfl rfl hi3 dX7_within_25 ?_
      refine lv_iload hx hb dX7_within_26 (lv_at hl 4 rfl) ?_
      obtain ⟨hi4, h⟩ := h
      refine tk_iald (k := 5 + 1 + 1 * Int32.toNatClampNeg x1) hx hb w (tk_r5 hi3) hi4 dX7_within_28 ?_
      refine lv_iload_n hx hb dX7_within_29 rfl (lv_at hl 2 rfl) ?_
      refine lv_icmp_gt (tgt := 40) hx hb dX7_within_30 (by decide) (fun c5 => ?_) (fun c5 => ?_)
      · have h := h.1 c5
        refine lv_iinc (v := x4 + 1) (lv' := [(4, .int (x4 + 1)), (0, .ref (ad 0)), (1, .int x1), (2, .int x2), (3, .int x3)]) hx hb dX7_within_40 hl (k := 4) rfl rfl (by decide) rfl (fun ls hl => ?_)
        refine lv_goto (tgt := 5) hx hb dX7_within_43 (by decide) ?_
        exact h _ _ _ _ _ _ _ _ _ _ _ _ _ _ _ _ C w (lv_sub hl [1, 2, 3, 4, 0] rfl)
      · have h := h.2 c5
        refine lv_iload_n hx hb dX7_within_33 rfl (lv_at hl 3 rfl) ?_
        refine lv_iconst (v := 1) hx hb dX7_within_34 (by decide) ?_
        refine lv_iload hx hb dX7_within_35 (lv_at hl 4 rfl) ?_
        refine lv_ishl hx hb dX7_within_37 ?_
        refine lv_ior hx hb dX7_within_38 ?_
        refine lv_topi (fun z6 e_z6 => ?_)
        have h := h z6 e_z6
        refine lv_istore_n (lv' := [(3, .int z6), (0, .ref (ad 0)), (1, .int x1), (2, .int x2), (4, .int x4)]) hx hb dX7_within_39 rfl hl (by decide) rfl (fun ls hl => ?_)
        refine lv_iinc (v := x4 + 1) (lv' := [(4, .int (x4 + 1)), (3, .int z6), (0, .ref (ad 0)), (1, .int x1), (2, .int x2)]) hx hb dX7_within_40 hl (k := 4) rfl rfl (by decide) rfl (fun ls hl => ?_)
        refine lv_goto (tgt := 5) hx hb dX7_within_43 (by decide) ?_
        exact h _ _ _ _ _ _ _ _ _ _ _ _ _ _ _ _ C w (lv_sub hl [2, 3, 4, 1, 0] rfl)
set_option maxHeartbeats 4000000 in
set_option maxRecDepth 100000 in
theorem b_X7_within_0 (d : Nat) (x1 : Int32) (x2 : Int32) (σ : tk_S) (Q : Int32 → tk_S → Prop) (h : g_X7_within d 5 [(0, aN 0), (1, aI x1), (2, aI x2), (3, aI 0), (4, aI 0)] σ Q) : g_X7_within d 0 [(0, aN 0), (1, aI x1), (2, aI x2)] σ Q := by
  intro p l e s m args below meth c D cy ad base H locs ls C w hl
  obtain ⟨hx, hb, hml, hown, hts, hr, hlk⟩ := id C
  have hl : lv_has ls 5 [(0, .ref (ad 0)), (1, .int x1), (2, .int x2)] := hl
  refine lv_iconst (v := 0) hx hb dX7_within_0 (by decide) ?_
  refine lv_istore_n (lv' := [(3, .int 0), (0, .ref (ad 0)), (1, .int x1), (2, .int x2)]) hx hb dX7_within_1 rfl hl (by decide) rfl (fun ls hl => ?_)
  refine lv_iconst (v := 0) hx hb dX7_within_2 (by decide) ?_
  refine lv_istore (lv' := [(4, .int 0), (3, .int 0), (0, .ref (ad 0)), (1, .int x1), (2, .int x2)]) hx hb dX7_within_3 hl (by decide) rfl (fun ls hl => ?_)
  exact h _ _ _ _ _ _ _ _ _ _ _ _ _ _ _ _ C w (lv_sub hl [2, 3, 4, 1, 0] rfl)
theorem e_X7_within (d : Nat) (x1 : Int32) (x2 : Int32) {σ : tk_S} {Q : Int32 → tk_S → Prop} (h : g_X7_within d 0 [(0, aN 0), (1, aI x1), (2, aI x2)] σ Q) : p_X7_within d [aN 0, aI x1, aI x2] σ Q := tk_entry (by decide) rfl (fun _ => Nat.le_of_ble_eq_true rfl) (fun _ => rfl) h
abbrev g_X7_chosen (d pc : Nat) (vals : List (Nat × tk_V)) (σ : tk_S) (Q : Int32 → tk_S → Prop) : Prop := tk_G RX7 cX7_chosen 1 (some .int) d pc vals σ (tk_i Q)
set_option maxHeartbeats 4000000 in
set_option maxRecDepth 100000 in
theorem b_X7_chosen_0 (d : Nat)  (σ : tk_S) (Q : Int32 → tk_S → Prop) (h : (¬ (σ.1 0 14) = 0 → Q (σ.1 23 1) σ) ∧ ((σ.1 0 14) = 0 → p_X7_lookWhatIsNear d [aN 0] σ (fun σ3 => p_X1_choose d [aN 23, aN 1, aN 51, aI (σ3.1 0 1)] σ3 (fun σ5 => Q ((tk_up σ5 0 14 1).1 23 1) (tk_up σ5 0 14 1))))) : g_X7_chosen (d + 1) 0 [(0, aN 0)] σ Q := by
  intro p l e s m args below meth c D cy ad base H locs ls C w hl
  obtain ⟨hx, hb, hml, hown, hts, hr, hlk⟩ := id C
  have hl : lv_has ls 1 [(0, .ref (ad 0))] := hl
  refine lv_aload_n hx hb dX7_chosen_0 rfl (lv_at hl 0 rfl) ?_
  refine tk_get (k := 0) (v := .int (σ.1 0 14)) hx hb hts hown w rfl rfl inlX7 14 (by decide) mw_233 rfl dX7_chosen_1 ?_
  refine lv_if_ne (tgt := 35) hx hb dX7_chosen_4 (by decide) (fun c1 => ?_) (fun c1 => ?_)
  · have h := h.1 c1
    refine lv_aload_n hx hb dX7_chosen_35 rfl (lv_at hl 0 rfl) ?_
    refine tk_get (k := 0) (v := .ref (ad 23)) hx hb hts hown w rfl rfl inlX7 10 (by decide) mw_32 rfl dX7_chosen_36 ?_
    refine tk_get (k := 23) (v := .int (σ.1 23 1)) hx hb hts hown w rfl rfl inlX1 1 (by decide) mw_478 rfl dX7_chosen_39 ?_
    exact tk_reti C w dX7_chosen_42 h
  · have h := h.2 c1
    refine lv_aload_n hx hb dX7_chosen_7 rfl (lv_at hl 0 rfl) ?_
    refine tk_cV C w (k := 0) rfl rfl (as := []) (rest := []) mw_482 mw_2 mw_479 mw_480 mw_481 hd_X7_lookWhatIsNear (by decide) hl.1 (Nat.le_of_ble_eq_true rfl) rfl dX7_chosen_8 h (fun r2 σ3 H locs hq w => ?_)
    obtain ⟨rfl, h⟩ := hq
    refine W.eq (g2 := F0 m 11 ls []) rfl ?_
    refine lv_aload_n hx hb dX7_chosen_11 rfl (lv_at hl 0 rfl) ?_
    refine tk_get (k := 0) (v := .ref (ad 23)) hx hb hts hown w rfl rfl inlX7 10 (by decide) mw_32 rfl dX7_chosen_12 ?_
    refine lv_aload_n hx hb dX7_chosen_15 rfl (lv_at hl 0 rfl) ?_
    refine tk_get (k := 0) (v := .ref (ad 1)) hx hb hts hown w rfl rfl inlX7 0 (by decide) mw_13 rfl dX7_chosen_16 ?_
    refine lv_aload_n hx hb dX7_chosen_19 rfl (lv_at hl 0 rfl) ?_
    refine tk_get (k := 0) (v := .ref (ad 51)) hx hb hts hown w rfl rfl inlX7 13 (by decide) mw_41 rfl dX7_chosen_20 ?_
    refine lv_aload_n hx hb dX7_chosen_23 rfl (lv_at hl 0 rfl) ?_
    refine tk_get (k := 0) (v := .int (σ3.1 0 1)) hx hb hts hown w rfl rfl inlX7 1 (by decide) mw_145 rfl dX7_chosen_24 ?_
    refine tk_cV C w (k := 23) rfl rfl (as := [aN 1, aN 51, aI (σ3.1 0 1)]) (rest := []) mw_490 mw_31 mw_487 mw_488 mw_489 hd_X1_choose (by decide) hl.1 (Nat.le_of_ble_eq_true rfl) rfl dX7_chosen_27 h (fun r4 σ5 H locs hq w => ?_)
    obtain ⟨rfl, h⟩ := hq
    refine W.eq (g2 := F0 m 30 ls []) rfl ?_
    refine lv_aload_n hx hb dX7_chosen_30 rfl (lv_at hl 0 rfl) ?_
    refine lv_iconst (v := 1) hx hb dX7_chosen_31 (by decide) ?_
    refine tk_puti (k := 0) (ty := .boolean) hx hb hts hown w rfl rfl inlX7 tyX7 tyX7_ok nmX7 14 (by decide) mw_233 rfl rfl (by decide +kernel) rfl rfl dX7_chosen_32 (fun H locs w => ?_)
    refine lv_aload_n hx hb dX7_chosen_35 rfl (lv_at hl 0 rfl) ?_
    refine tk_get (k := 0) (v := .ref (ad 23)) hx hb hts hown w rfl rfl inlX7 10 (by decide) mw_32 rfl dX7_chosen_36 ?_
    refine tk_get (k := 23) (v := .int ((tk_up σ5 0 14 1).1 23 1)) hx hb hts hown w rfl rfl inlX1 1 (by decide) mw_478 rfl dX7_chosen_39 ?_
    exact tk_reti C w dX7_chosen_42 h
theorem e_X7_chosen (d : Nat)  {σ : tk_S} {Q : Int32 → tk_S → Prop} (h : g_X7_chosen d 0 [(0, aN 0)] σ Q) : p_X7_chosen d [aN 0] σ Q := tk_entry (by decide) rfl (fun _ => Nat.le_of_ble_eq_true rfl) (fun _ => rfl) h
abbrev g_X7_stack (d pc : Nat) (vals : List (Nat × tk_V)) (σ : tk_S) (Q : tk_S → Prop) : Prop := tk_G RX7 cX7_stack 1 none d pc vals σ (tk_v Q)
set_option maxHeartbeats 4000000 in
set_option maxRecDepth 100000 in
theorem b_X7_stack_0 (d : Nat)  (σ : tk_S) (Q : tk_S → Prop) (h : (¬ (σ.1 0 15) = 0 → Q σ) ∧ ((σ.1 0 15) = 0 → p_X7_lookWhatIsNear d [aN 0] σ (fun σ3 => p_X5_lay d [aN 25, aN 51, aI (σ3.1 0 1)] σ3 (fun σ5 => Q (tk_up σ5 0 15 1))))) : g_X7_stack (d + 1) 0 [(0, aN 0)] σ Q := by
  intro p l e s m args below meth c D cy ad base H locs ls C w hl
  obtain ⟨hx, hb, hml, hown, hts, hr, hlk⟩ := id C
  have hl : lv_has ls 1 [(0, .ref (ad 0))] := hl
  refine lv_aload_n hx hb dX7_stack_0 rfl (lv_at hl 0 rfl) ?_
  refine tk_get (k := 0) (v := .int (σ.1 0 15)) hx hb hts hown w rfl rfl inlX7 15 (by decide) mw_234 rfl dX7_stack_1 ?_
  refine lv_if_ne (tgt := 31) hx hb dX7_stack_4 (by decide) (fun c1 => ?_) (fun c1 => ?_)
  · have h := h.1 c1
    exact tk_retv C w dX7_stack_31 h
  · have h := h.2 c1
    refine lv_aload_n hx hb dX7_stack_7 rfl (lv_at hl 0 rfl) ?_
    refine tk_cV C w (k := 0) rfl rfl (as := []) (rest := []) mw_482 mw_2 mw_479 mw_480 mw_481 hd_X7_lookWhatIsNear (by decide) hl.1 (Nat.le_of_ble_eq_true rfl) rfl dX7_stack_8 h (fun r2 σ3 H locs hq w => ?_)
    obtain ⟨rfl, h⟩ := hq
    refine W.eq (g2 := F0 m 11 ls []) rfl ?_
    refine lv_aload_n hx hb dX7_stack_11 rfl (lv_at hl 0 rfl) ?_
    refine tk_get (k := 0) (v := .ref (ad 25)) hx hb hts hown w rfl rfl inlX7 11 (by decide) mw_36 rfl dX7_stack_12 ?_
    refine lv_aload_n hx hb dX7_stack_15 rfl (lv_at hl 0 rfl) ?_
    refine tk_get (k := 0) (v := .ref (ad 51)) hx hb hts hown w rfl rfl inlX7 13 (by decide) mw_41 rfl dX7_stack_16 ?_
    refine lv_aload_n hx hb dX7_stack_19 rfl (lv_at hl 0 rfl) ?_
    refine tk_get (k := 0) (v := .int (σ3.1 0 1)) hx hb hts hown w rfl rfl inlX7 1 (by decide) mw_145 rfl dX7_stack_20 ?_
    refine tk_cV C w (k := 25) rfl rfl (as := [aN 51, aI (σ3.1 0 1)]) (rest := []) mw_530 mw_35 mw_527 mw_528 mw_529 hd_X5_lay (by decide) hl.1 (Nat.le_of_ble_eq_true rfl) rfl dX7_stack_23 h (fun r4 σ5 H locs hq w => ?_)
    obtain ⟨rfl, h⟩ := hq
    refine W.eq (g2 := F0 m 26 ls []) rfl ?_
    refine lv_aload_n hx hb dX7_stack_26 rfl (lv_at hl 0 rfl) ?_
    refine lv_iconst (v := 1) hx hb dX7_stack_27 (by decide) ?_
    refine tk_puti (k := 0) (ty := .boolean) hx hb hts hown w rfl rfl inlX7 tyX7 tyX7_ok nmX7 15 (by decide) mw_234 rfl rfl (by decide +kernel) rfl rfl dX7_stack_28 (fun H locs w => ?_)
    exact tk_retv C w dX7_stack_31 h
theorem e_X7_stack (d : Nat)  {σ : tk_S} {Q : tk_S → Prop} (h : g_X7_stack d 0 [(0, aN 0)] σ Q) : p_X7_stack d [aN 0] σ Q := tk_entry (by decide) rfl (fun _ => Nat.le_of_ble_eq_true rfl) (fun _ => rfl) h
abbrev g_X7_weave (d pc : Nat) (vals : List (Nat × tk_V)) (σ : tk_S) (Q : tk_S → Prop) : Prop := tk_G RX7 cX7_weave 3 none d pc vals σ (tk_v Q)
set_option maxHeartbeats 4000000 in
set_option maxRecDepth 100000 in
theorem b_X7_weave_14 (d : Nat) (x1 : Int32) (x2 : Int32) (σ : tk_S) (Q : tk_S → Prop) (h : ((σ.1 0 1) ≤ x2 → p_X6_giveTextures d [aN 30, aI x1] σ (fun σ3 => Q (tk_up σ3 0 16 1))) ∧ (¬ (σ.1 0 1) ≤ x2 → p_X7_within d [aN 0, aI x2, aI 3] σ (fun y6 σ5 => vp_in x2 12 ∧ (g_X7_weave (d + 1) 14 [(0, aN 0), (1, aI x1), (2, aI (x2 + 1))] (tk_up σ5 33 (Int32.toNatClampNeg x2) (y6 &&& x1)) Q)))) : g_X7_weave (d + 1) 14 [(0, aN 0), (1, aI x1), (2, aI x2)] σ Q := by
  intro p l e s m args below meth c D cy ad base H locs ls C w hl
  obtain ⟨hx, hb, hml, hown, hts, hr, hlk⟩ := id C
  have hl : lv_has ls 3 [(0, .ref (ad 0)), (1, .int x1), (2, .int x2)] := hl
  refine lv_iload_n hx hb dX7_weave_14 rfl (lv_at hl 2 rfl) ?_
  refine lv_aload_n hx hb dX7_weave_15 rfl (lv_at hl 0 rfl) ?_
  refine tk_get (k := 0) (v := .int (σ.1 0 1)) hx hb hts hown w rfl rfl inlX7 1 (by decide) mw_145 rfl dX7_weave_16 ?_
  refine lv_icmp_ge (tgt := 45) hx hb dX7_weave_19 (by decide) (fun c1 => ?_) (fun c1 => ?_)
  · have h := h.1 c1
    refine lv_aload_n hx hb dX7_weave_45 rfl (lv_at hl 0 rfl) ?_
    refine tk_get (k := 0) (v := .ref (ad 30)) hx hb hts hown w rfl rfl inlX7 12 (by decide) mw_40 rfl dX7_weave_46 ?_
    refine lv_iload_n hx hb dX7_weave_49 rfl (lv_at hl 1 rfl) ?_
    refine tk_cV C w (k := 30) rfl rfl (as := [aI x1]) (rest := []) mw_575 mw_39 mw_572 mw_573 mw_574 hd_X6_giveTextures (by decide) hl.1 (Nat.le_of_ble_eq_true rfl) rfl dX7_weave_50 h (fun r2 σ3 H locs hq w => ?_)
    obtain ⟨rfl, h⟩ := hq
    refine W.eq (g2 := F0 m 53 ls []) rfl ?_
    refine lv_aload_n hx hb dX7_weave_53 rfl (lv_at hl 0 rfl) ?_
    refine lv_iconst (v := 1) hx hb dX7_weave_54 (by decide) ?_
    refine tk_puti (k := 0) (ty := .boolean) hx hb hts hown w rfl rfl inlX7 tyX7 tyX7_ok nmX7 16 (by decide) mw_235 rfl rfl (by decide +kernel) rfl rfl dX7_weave_55 (fun H locs w => ?_)
    exact tk_retv C w dX7_weave_58 h
  · have h := h.2 c1
    refine lv_aload_n hx hb dX7_weave_22 rfl (lv_at hl 0 rfl) ?_
    refine tk_get (k := 0) (v := .ref (ad 30)) hx hb hts hown w rfl rfl inlX7 12 (by decide) mw_40 rfl dX7_weave_23 ?_
    refine tk_get (k := 30) (v := .ref (ad 33)) hx hb hts hown w rfl rfl inlX6 2 (by decide) mw_567 rfl dX7_weave_26 ?_
    refine lv_iload_n hx hb dX7_weave_29 rfl (lv_at hl 2 rfl) ?_
    refine lv_aload_n hx hb dX7_weave_30 rfl (lv_at hl 0 rfl) ?_
    refine lv_iload_n hx hb dX7_weave_31 rfl (lv_at hl 2 rfl) ?_
    refine lv_iconst (v := 3) hx hb dX7_weave_32 (by decide) ?_
    refine tk_cV C w (k := 0) rfl rfl (as := [aI x2, aI 3]) (rest := [.int x2, .ref (ad 33)]) mw_486 mw_2 mw_483 mw_484 mw_485 hd_X7_within (by decide) hl.1 (Nat.le_of_ble_eq_true rfl) rfl dX7_weave_33 h (fun r4 σ5 H locs hq w => ?_)
    obtain ⟨y6, rfl, h⟩ := hq
    refine W.eq (g2 := F0 m 36 ls [.int y6, .int x2, .ref (ad 33)]) rfl ?_
    refine lv_iload_n hx hb dX7_weave_36 rfl (lv_at hl 1 rfl) ?_
    refine lv_iand hx hb dX7_weave_37 ?_
    obtain ⟨hi7, h⟩ := h
    refine tk_iast (k := 33) hx hb w rfl hi7 dX7_weave_38 (fun H locs w => ?_)
    refine lv_iinc (v := x2 + 1) (lv' := [(2, .int (x2 + 1)), (0, .ref (ad 0)), (1, .int x1)]) hx hb dX7_weave_39 hl (k := 2) rfl rfl (by decide) rfl (fun ls hl => ?_)
    refine lv_goto (tgt := 14) hx hb dX7_weave_42 (by decide) ?_
    exact h _ _ _ _ _ _ _ _ _ _ _ _ _ _ _ _ C w (lv_sub hl [1, 2, 0] rfl)
set_option maxHeartbeats 4000000 in
set_option maxRecDepth 100000 in
theorem b_X7_weave_0 (d : Nat)  (σ : tk_S) (Q : tk_S → Prop) (h : (¬ (σ.1 0 16) = 0 → Q σ) ∧ ((σ.1 0 16) = 0 → p_X7_groundSet d [aN 0] σ (fun y4 σ3 => g_X7_weave (d + 1) 14 [(0, aN 0), (1, aI y4), (2, aI 0)] σ3 Q))) : g_X7_weave (d + 1) 0 [(0, aN 0)] σ Q := by
  intro p l e s m args below meth c D cy ad base H locs ls C w hl
  obtain ⟨hx, hb, hml, hown, hts, hr, hlk⟩ := id C
  have hl : lv_has ls 3 [(0, .ref (ad 0))] := hl
  refine lv_aload_n hx hb dX7_weave_0 rfl (lv_at hl 0 rfl) ?_
  refine tk_get (k := 0) (v := .int (σ.1 0 16)) hx hb hts hown w rfl rfl inlX7 16 (by decide) mw_235 rfl dX7_weave_1 ?_
  refine lv_if_ne (tgt := 58) hx hb dX7_weave_4 (by decide) (fun c1 => ?_) (fun c1 => ?_)
  · have h := h.1 c1
    exact tk_retv C w dX7_weave_58 h
  · have h := h.2 c1
    refine lv_aload_n hx hb dX7_weave_7 rfl (lv_at hl 0 rfl) ?_
    refine tk_cV C w (k := 0) rfl rfl (as := []) (rest := []) mw_571 mw_2 mw_568 mw_569 mw_570 hd_X7_groundSet (by decide) hl.1 (Nat.le_of_ble_eq_true rfl) rfl dX7_weave_8 h (fun r2 σ3 H locs hq w => ?_)
    obtain ⟨y4, rfl, h⟩ := hq
    refine W.eq (g2 := F0 m 11 ls [.int y4]) rfl ?_
    refine lv_istore_n (lv' := [(1, .int y4), (0, .ref (ad 0))]) hx hb dX7_weave_11 rfl hl (by decide) rfl (fun ls hl => ?_)
    refine lv_iconst (v := 0) hx hb dX7_weave_12 (by decide) ?_
    refine lv_istore_n (lv' := [(2, .int 0), (1, .int y4), (0, .ref (ad 0))]) hx hb dX7_weave_13 rfl hl (by decide) rfl (fun ls hl => ?_)
    exact h _ _ _ _ _ _ _ _ _ _ _ _ _ _ _ _ C w (lv_sub hl [2, 1, 0] rfl)
theorem e_X7_weave (d : Nat)  {σ : tk_S} {Q : tk_S → Prop} (h : g_X7_weave d 0 [(0, aN 0)] σ Q) : p_X7_weave d [aN 0] σ Q := tk_entry (by decide) rfl (fun _ => Nat.le_of_ble_eq_true rfl) (fun _ => rfl) h
abbrev g_X7_groundSet (d pc : Nat) (vals : List (Nat × tk_V)) (σ : tk_S) (Q : Int32 → tk_S → Prop) : Prop := tk_G RX7 cX7_groundSet 3 (some .int) d pc vals σ (tk_i Q)
set_option maxHeartbeats 4000000 in
set_option maxRecDepth 100000 in
theorem b_X7_groundSet_4 (d : Nat) (x1 : Int32) (x2 : Int32) (σ : tk_S) (Q : Int32 → tk_S → Prop) (h : ((σ.1 0 1) ≤ x2 → Q x1 σ) ∧ (¬ (σ.1 0 1) ≤ x2 → vp_in x2 12 ∧ ((¬ (σ.1 (1 + 71 + 5 * Int32.toNatClampNeg x2) 0) = 1 → g_X7_groundSet d 4 [(0, aN 0), (1, aI x1), (2, aI (x2 + 1))] σ Q) ∧ ((σ.1 (1 + 71 + 5 * Int32.toNatClampNeg x2) 0) = 1 → ∀ z4 : Int32, z4 = x1 ||| ((1 : Int32) <<< (x2 &&& 31)) → (g_X7_groundSet d 4 [(0, aN 0), (1, aI z4), (2, aI (x2 + 1))] σ Q))))) : g_X7_groundSet d 4 [(0, aN 0), (1, aI x1), (2, aI x2)] σ Q := by
  intro p l e s m args below meth c D cy ad base H locs ls C w hl
  obtain ⟨hx, hb, hml, hown, hts, hr, hlk⟩ := id C
  have hl : lv_has ls 3 [(0, .ref (ad 0)), (1, .int x1), (2, .int x2)] := hl
  refine lv_iload_n hx hb dX7_groundSet_4 rfl (lv_at hl 2 rfl) ?_
  refine lv_aload_n hx hb dX7_groundSet_5 rfl (lv_at hl 0 rfl) ?_
  refine tk_get (k := 0) (v := .int (σ.1 0 1)) hx hb hts hown w rfl rfl inlX7 1 (by decide) mw_145 rfl dX7_groundSet_6 ?_
  refine lv_icmp_ge (tgt := 37) hx hb dX7_groundSet_9 (by decide) (fun c1 => ?_) (fun c1 => ?_)
  · have h := h.1 c1
    refine lv_iload_n hx hb dX7_groundSet_37 rfl (lv_at hl 1 rfl) ?_
    exact tk_reti C w dX7_groundSet_38 h
  · have h := h.2 c1
    refine lv_aload_n hx hb dX7_groundSet_12 rfl (lv_at hl 0 rfl) ?_
    refine tk_get (k := 0) (v := .ref (ad 1)) hx hb hts hown w rfl rfl inlX7 0 (by decide) mw_13 rfl dX7_groundSet_13 ?_
    refine lv_iload_n hx hb dX7_groundSet_16 rfl (lv_at hl 2 rfl) ?_
    obtain ⟨hi2, h⟩ := h
    refine tk_aald (k := 1) (t := 0) (ty := .object "TouchSheet$Shape") hx hb w rfl (by decide) rfl rfl hi2 dX7_groundSet_17 ?_
    refine tk_get (k := 1 + 71 + 5 * Int32.toNatClampNeg x2) (v := .int (σ.1 (1 + 71 + 5 * Int32.toNatClampNeg x2) 0)) hx hb hts hown w (tk_r1 hi2) rfl inlX3 0 (by decide) mw_351 rfl dX7_groundSet_18 ?_
    refine lv_iconst (v := 1) hx hb dX7_groundSet_21 (by decide) ?_
    refine lv_icmp_ne (tgt := 31) hx hb dX7_groundSet_22 (by decide) (fun c3 => ?_) (fun c3 => ?_)
    · have h := h.1 c3
      refine lv_iinc (v := x2 + 1) (lv' := [(2, .int (x2 + 1)), (0, .ref (ad 0)), (1, .int x1)]) hx hb dX7_groundSet_31 hl (k := 2) rfl rfl (by decide) rfl (fun ls hl => ?_)
      refine lv_goto (tgt := 4) hx hb dX7_groundSet_34 (by decide) ?_
      exact h _ _ _ _ _ _ _ _ _ _ _ _ _ _ _ _ C w (lv_sub hl [1, 2, 0] rfl)
    · have h := h.2 c3
      refine lv_iload_n hx hb dX7_groundSet_25 rfl (lv_at hl 1 rfl) ?_
      refine lv_iconst (v := 1) hx hb dX7_groundSet_26 (by decide) ?_
      refine lv_iload_n hx hb dX7_groundSet_27 rfl (lv_at hl 2 rfl) ?_
      refine lv_ishl hx hb dX7_groundSet_28 ?_
      refine lv_ior hx hb dX7_groundSet_29 ?_
      refine lv_topi (fun z4 e_z4 => ?_)
      have h := h z4 e_z4
      refine lv_istore_n (lv' := [(1, .int z4), (0, .ref (ad 0)), (2, .int x2)]) hx hb dX7_groundSet_30 rfl hl (by decide) rfl (fun ls hl => ?_)
      refine lv_iinc (v := x2 + 1) (lv' := [(2, .int (x2 + 1)), (1, .int z4), (0, .ref (ad 0))]) hx hb dX7_groundSet_31 hl (k := 2) rfl rfl (by decide) rfl (fun ls hl => ?_)
      refine lv_goto (tgt := 4) hx hb dX7_groundSet_34 (by decide) ?_
      exact h _ _ _ _ _ _ _ _ _ _ _ _ _ _ _ _ C w (lv_sub hl [2, 1, 0] rfl)
set_option maxHeartbeats 4000000 in
set_option maxRecDepth 100000 in
theorem b_X7_groundSet_0 (d : Nat)  (σ : tk_S) (Q : Int32 → tk_S → Prop) (h : g_X7_groundSet d 4 [(0, aN 0), (1, aI 0), (2, aI 0)] σ Q) : g_X7_groundSet d 0 [(0, aN 0)] σ Q := by
  intro p l e s m args below meth c D cy ad base H locs ls C w hl
  obtain ⟨hx, hb, hml, hown, hts, hr, hlk⟩ := id C
  have hl : lv_has ls 3 [(0, .ref (ad 0))] := hl
  refine lv_iconst (v := 0) hx hb dX7_groundSet_0 (by decide) ?_
  refine lv_istore_n (lv' := [(1, .int 0), (0, .ref (ad 0))]) hx hb dX7_groundSet_1 rfl hl (by decide) rfl (fun ls hl => ?_)
  refine lv_iconst (v := 0) hx hb dX7_groundSet_2 (by decide) ?_
  refine lv_istore_n (lv' := [(2, .int 0), (1, .int 0), (0, .ref (ad 0))]) hx hb dX7_groundSet_3 rfl hl (by decide) rfl (fun ls hl => ?_)
  exact h _ _ _ _ _ _ _ _ _ _ _ _ _ _ _ _ C w (lv_sub hl [2, 1, 0] rfl)
theorem e_X7_groundSet (d : Nat)  {σ : tk_S} {Q : Int32 → tk_S → Prop} (h : g_X7_groundSet d 0 [(0, aN 0)] σ Q) : p_X7_groundSet d [aN 0] σ Q := tk_entry (by decide) rfl (fun _ => Nat.le_of_ble_eq_true rfl) (fun _ => rfl) h
abbrev g_X7_press (d pc : Nat) (vals : List (Nat × tk_V)) (σ : tk_S) (Q : tk_S → Prop) : Prop := tk_G RX7 cX7_press 7 none d pc vals σ (tk_v Q)
set_option maxHeartbeats 4000000 in
set_option maxRecDepth 100000 in
theorem b_X7_press_107 (d : Nat) (k1 : Nat) (h_1 : tk_sh k1 = tk_shape) (x2 : Int32) (x3 : Int32) (x4 : Int32) (x6 : Int32) (σ : tk_S) (Q : tk_S → Prop) (h : vp_in x4 24 ∧ (vp_in x4 24 ∧ (vp_in x4 24 ∧ (g_X7_press (d + 1) 46 [(0, aN 0), (1, aN k1), (2, aI x2), (3, aI x3), (4, aI (x4 + 1))] (tk_up σ 53 (Int32.toNatClampNeg x4) ((σ.1 53 (Int32.toNatClampNeg x4)) ||| ((σ.1 ((k1 + 3) + 1) (Int32.toNatClampNeg x4)) &&& x6))) Q)))) : g_X7_press (d + 1) 107 [(0, aN 0), (1, aN k1), (2, aI x2), (3, aI x3), (4, aI x4), (6, aI x6)] σ Q := by
  intro p l e s m args below meth c D cy ad base H locs ls C w hl
  obtain ⟨hx, hb, hml, hown, hts, hr, hlk⟩ := id C
  have hl : lv_has ls 7 [(0, .ref (ad 0)), (1, .ref (ad k1)), (2, .int x2), (3, .int x3), (4, .int x4), (6, .int x6)] := hl
  refine lv_aload_n hx hb dX7_press_107 rfl (lv_at hl 0 rfl) ?_
  refine tk_get (k := 0) (v := .ref (ad 52)) hx hb hts hown w rfl rfl inlX7 17 (by decide) mw_42 rfl dX7_press_108 ?_
  refine tk_get (k := 52) (v := .ref (ad 53)) hx hb hts hown w rfl rfl inlX2 0 (by decide) mw_669 rfl dX7_press_111 ?_
  refine lv_iload hx hb dX7_press_114 (lv_at hl 4 rfl) ?_
  refine lv_dup2_11 hx hb dX7_press_116 rfl rfl ?_
  obtain ⟨hi1, h⟩ := h
  refine tk_iald (k := 53) hx hb w rfl hi1 dX7_press_117 ?_
  refine lv_aload_n hx hb dX7_press_118 rfl (lv_at hl 1 rfl) ?_
  refine tk_get (k := k1) (v := .ref (ad (k1 + 3))) hx hb hts hown w h_1 rfl inlX3 5 (by decide) mw_209 rfl dX7_press_119 ?_
  refine tk_get (k := k1 + 3) (v := .ref (ad ((k1 + 3) + 1))) hx hb hts hown w (tk_s3 h_1) rfl inlX2 0 (by decide) mw_669 rfl dX7_press_122 ?_
  refine lv_iload hx hb dX7_press_125 (lv_at hl 4 rfl) ?_
  obtain ⟨hi2, h⟩ := h
  refine tk_iald (k := (k1 + 3) + 1) hx hb w (tk_p1 (tk_s3 h_1)) hi2 dX7_press_127 ?_
  refine lv_iload hx hb dX7_press_128 (lv_at hl 5 rfl) ?_
  refine lv_iand hx hb dX7_press_130 ?_
  refine lv_ior hx hb dX7_press_131 ?_
  obtain ⟨hi3, h⟩ := h
  refine tk_iast (k := 53) hx hb w rfl hi3 dX7_press_132 (fun H locs w => ?_)
  refine lv_iinc (v := x4 + 1) (lv' := [(4, .int (x4 + 1)), (0, .ref (ad 0)), (1, .ref (ad k1)), (2, .int x2), (3, .int x3), (6, .int x6)]) hx hb dX7_press_133 hl (k := 4) rfl rfl (by decide) rfl (fun ls hl => ?_)
  refine lv_goto (tgt := 46) hx hb dX7_press_136 (by decide) ?_
  exact h _ _ _ _ _ _ _ _ _ _ _ _ _ _ _ _ C w (lv_sub hl [1, 2, 3, 4, 0] rfl)
set_option maxHeartbeats 4000000 in
set_option maxRecDepth 100000 in
theorem b_X7_press_46 (d : Nat) (k1 : Nat) (h_1 : tk_sh k1 = tk_shape) (x2 : Int32) (x3 : Int32) (x4 : Int32) (σ : tk_S) (Q : tk_S → Prop) (h : ((σ.1 (k1 + 2) (Int32.toNatClampNeg 1)) < x4 → Q σ) ∧ (¬ (σ.1 (k1 + 2) (Int32.toNatClampNeg 1)) < x4 → (x4 = (σ.1 (k1 + 2) (Int32.toNatClampNeg 0)) → g_X7_press (d + 1) 107 [(0, aN 0), (1, aN k1), (2, aI x2), (3, aI x3), (4, aI x4), (6, aI 16777215)] σ Q) ∧ (¬ x4 = (σ.1 (k1 + 2) (Int32.toNatClampNeg 0)) → (¬ x4 = (σ.1 (k1 + 2) (Int32.toNatClampNeg 1)) → p_X7_rowOfTexture d [aI x2, aI x4] σ (fun y8 σ7 => ∀ z9 : Int32, z9 = x3 ||| y8 → (g_X7_press (d + 1) 107 [(0, aN 0), (1, aN k1), (2, aI x2), (3, aI x3), (4, aI x4), (6, aI z9)] σ7 Q))) ∧ (x4 = (σ.1 (k1 + 2) (Int32.toNatClampNeg 1)) → g_X7_press (d + 1) 107 [(0, aN 0), (1, aN k1), (2, aI x2), (3, aI x3), (4, aI x4), (6, aI 16777215)] σ Q)))) : g_X7_press (d + 1) 46 [(0, aN 0), (1, aN k1), (2, aI x2), (3, aI x3), (4, aI x4)] σ Q := by
  intro p l e s m args below meth c D cy ad base H locs ls C w hl
  obtain ⟨hx, hb, hml, hown, hts, hr, hlk⟩ := id C
  have hl : lv_has ls 7 [(0, .ref (ad 0)), (1, .ref (ad k1)), (2, .int x2), (3, .int x3), (4, .int x4)] := hl
  refine lv_iload hx hb dX7_press_46 (lv_at hl 4 rfl) ?_
  refine lv_aload_n hx hb dX7_press_48 rfl (lv_at hl 1 rfl) ?_
  refine tk_get (k := k1) (v := .ref (ad (k1 + 2))) hx hb hts hown w h_1 rfl inlX3 4 (by decide) mw_667 rfl dX7_press_49 ?_
  refine lv_iconst (v := 1) hx hb dX7_press_52 (by decide) ?_
  refine tk_iald (k := k1 + 2) hx hb w (tk_s2 h_1) (by unfold vp_in; decide) dX7_press_53 ?_
  refine lv_icmp_gt (tgt := 139) hx hb dX7_press_54 (by decide) (fun c1 => ?_) (fun c1 => ?_)
  · have h := h.1 c1
    exact tk_retv C w dX7_press_139 h
  · have h := h.2 c1
    refine lv_iload hx hb dX7_press_57 (lv_at hl 4 rfl) ?_
    refine lv_aload_n hx hb dX7_press_59 rfl (lv_at hl 1 rfl) ?_
    refine tk_get (k := k1) (v := .ref (ad (k1 + 2))) hx hb hts hown w h_1 rfl inlX3 4 (by decide) mw_667 rfl dX7_press_60 ?_
    refine lv_iconst (v := 0) hx hb dX7_press_63 (by decide) ?_
    refine tk_iald (k := k1 + 2) hx hb w (tk_s2 h_1) (by unfold vp_in; decide) dX7_press_64 ?_
    refine lv_icmp_eq (tgt := 79) hx hb dX7_press_65 (by decide) (fun c2 => ?_) (fun c2 => ?_)
    · have h := h.1 c2
      refine lv_iconst (v := 1) hx hb dX7_press_79 (by decide) ?_
      refine lv_goto (tgt := 84) hx hb dX7_press_80 (by decide) ?_
      refine lv_istore (lv' := [(5, .int 1), (0, .ref (ad 0)), (1, .ref (ad k1)), (2, .int x2), (3, .int x3), (4, .int x4)]) hx hb dX7_press_84 hl (by decide) rfl (fun ls hl => ?_)
      refine lv_iload hx hb dX7_press_86 (lv_at hl 0 rfl) ?_
      refine lv_if_eq (tgt := 97) hx hb dX7_press_88 (by decide) (fun c3 => absurd c3 (by decide)) (fun c3 => ?_)
      refine lv_ldcw (v := 16777215) hx hb hown (hts _ mw_668) dX7_press_91 ?_
      refine lv_goto (tgt := 105) hx hb dX7_press_94 (by decide) ?_
      refine lv_istore (lv' := [(6, .int 16777215), (5, .int 1), (0, .ref (ad 0)), (1, .ref (ad k1)), (2, .int x2), (3, .int x3), (4, .int x4)]) hx hb dX7_press_105 hl (by decide) rfl (fun ls hl => ?_)
      exact h _ _ _ _ _ _ _ _ _ _ _ _ _ _ _ _ C w (lv_sub hl [2, 3, 4, 5, 6, 0] rfl)
    · have h := h.2 c2
      refine lv_iload hx hb dX7_press_68 (lv_at hl 4 rfl) ?_
      refine lv_aload_n hx hb dX7_press_70 rfl (lv_at hl 1 rfl) ?_
      refine tk_get (k := k1) (v := .ref (ad (k1 + 2))) hx hb hts hown w h_1 rfl inlX3 4 (by decide) mw_667 rfl dX7_press_71 ?_
      refine lv_iconst (v := 1) hx hb dX7_press_74 (by decide) ?_
      refine tk_iald (k := k1 + 2) hx hb w (tk_s2 h_1) (by unfold vp_in; decide) dX7_press_75 ?_
      refine lv_icmp_ne (tgt := 83) hx hb dX7_press_76 (by decide) (fun c4 => ?_) (fun c4 => ?_)
      · have h := h.1 c4
        refine lv_iconst (v := 0) hx hb dX7_press_83 (by decide) ?_
        refine lv_istore (lv' := [(5, .int 0), (0, .ref (ad 0)), (1, .ref (ad k1)), (2, .int x2), (3, .int x3), (4, .int x4)]) hx hb dX7_press_84 hl (by decide) rfl (fun ls hl => ?_)
        refine lv_iload hx hb dX7_press_86 (lv_at hl 0 rfl) ?_
        refine lv_if_eq (tgt := 97) hx hb dX7_press_88 (by decide) (fun c5 => ?_) (fun c5 => absurd (by decide) c5)
        refine lv_iload_n hx hb dX7_press_97 rfl (lv_at hl 4 rfl) ?_
        refine lv_iload_n hx hb dX7_press_98 rfl (lv_at hl 3 rfl) ?_
        refine lv_iload hx hb dX7_press_99 (lv_at hl 5 rfl) ?_
        refine tk_cS C w (as := [aI x2, aI x4]) (rest := [.int x3]) mw_676 mw_2 mw_674 mw_675 hd_X7_rowOfTexture (by decide) hl.1 (Nat.le_of_ble_eq_true rfl) rfl dX7_press_101 h (fun r6 σ7 H locs hq w => ?_)
        obtain ⟨y8, rfl, h⟩ := hq
        refine W.eq (g2 := F0 m 104 ls [.int y8, .int x3]) rfl ?_
        refine lv_ior hx hb dX7_press_104 ?_
        refine lv_topi (fun z9 e_z9 => ?_)
        have h := h z9 e_z9
        refine lv_istore (lv' := [(6, .int z9), (5, .int 0), (0, .ref (ad 0)), (1, .ref (ad k1)), (2, .int x2), (3, .int x3), (4, .int x4)]) hx hb dX7_press_105 hl (by decide) rfl (fun ls hl => ?_)
        exact h _ _ _ _ _ _ _ _ _ _ _ _ _ _ _ _ C w (lv_sub hl [2, 3, 4, 5, 6, 0] rfl)
      · have h := h.2 c4
        refine lv_iconst (v := 1) hx hb dX7_press_79 (by decide) ?_
        refine lv_goto (tgt := 84) hx hb dX7_press_80 (by decide) ?_
        refine lv_istore (lv' := [(5, .int 1), (0, .ref (ad 0)), (1, .ref (ad k1)), (2, .int x2), (3, .int x3), (4, .int x4)]) hx hb dX7_press_84 hl (by decide) rfl (fun ls hl => ?_)
        refine lv_iload hx hb dX7_press_86 (lv_at hl 0 rfl) ?_
        refine lv_if_eq (tgt := 97) hx hb dX7_press_88 (by decide) (fun c10 => absurd c10 (by decide)) (fun c10 => ?_)
        refine lv_ldcw (v := 16777215) hx hb hown (hts _ mw_668) dX7_press_91 ?_
        refine lv_goto (tgt := 105) hx hb dX7_press_94 (by decide) ?_
        refine lv_istore (lv' := [(6, .int 16777215), (5, .int 1), (0, .ref (ad 0)), (1, .ref (ad k1)), (2, .int x2), (3, .int x3), (4, .int x4)]) hx hb dX7_press_105 hl (by decide) rfl (fun ls hl => ?_)
        exact h _ _ _ _ _ _ _ _ _ _ _ _ _ _ _ _ C w (lv_sub hl [2, 3, 4, 5, 6, 0] rfl)
set_option maxHeartbeats 4000000 in
set_option maxRecDepth 100000 in
theorem b_X7_press_0 (d : Nat) (k1 : Nat) (h_1 : tk_sh k1 = tk_shape) (x2 : Int32) (σ : tk_S) (Q : tk_S → Prop) (h : ((σ.1 k1 0) = 1 → ∀ z2 : Int32, z2 = ((1 : Int32) <<< ((σ.1 (k1 + 1) (Int32.toNatClampNeg 0)) &&& 31)) ||| ((1 : Int32) <<< ((σ.1 (k1 + 1) (Int32.toNatClampNeg 1)) &&& 31)) → (∀ z3 : Int32, z3 = σ.1 (k1 + 2) (Int32.toNatClampNeg 0) → (g_X7_press (d + 1) 46 [(0, aN 0), (1, aN k1), (2, aI x2), (3, aI z2), (4, aI z3)] σ Q))) ∧ (¬ (σ.1 k1 0) = 1 → p_X2_join d [aN 52, aN (k1 + 3)] σ (fun σ5 => Q σ5))) : g_X7_press (d + 1) 0 [(0, aN 0), (1, aN k1), (2, aI x2)] σ Q := by
  intro p l e s m args below meth c D cy ad base H locs ls C w hl
  obtain ⟨hx, hb, hml, hown, hts, hr, hlk⟩ := id C
  have hl : lv_has ls 7 [(0, .ref (ad 0)), (1, .ref (ad k1)), (2, .int x2)] := hl
  refine lv_aload_n hx hb dX7_press_0 rfl (lv_at hl 1 rfl) ?_
  refine tk_get (k := k1) (v := .int (σ.1 k1 0)) hx hb hts hown w h_1 rfl inlX3 0 (by decide) mw_351 rfl dX7_press_1 ?_
  refine lv_iconst (v := 1) hx hb dX7_press_4 (by decide) ?_
  refine lv_icmp_eq (tgt := 20) hx hb dX7_press_5 (by decide) (fun c1 => ?_) (fun c1 => ?_)
  · have h := h.1 c1
    refine lv_iconst (v := 1) hx hb dX7_press_20 (by decide) ?_
    refine lv_aload_n hx hb dX7_press_21 rfl (lv_at hl 1 rfl) ?_
    refine tk_get (k := k1) (v := .ref (ad (k1 + 1))) hx hb hts hown w h_1 rfl inlX3 3 (by decide) mw_666 rfl dX7_press_22 ?_
    refine lv_iconst (v := 0) hx hb dX7_press_25 (by decide) ?_
    refine tk_iald (k := k1 + 1) hx hb w (tk_s1 h_1) (by unfold vp_in; decide) dX7_press_26 ?_
    refine lv_ishl hx hb dX7_press_27 ?_
    refine lv_iconst (v := 1) hx hb dX7_press_28 (by decide) ?_
    refine lv_aload_n hx hb dX7_press_29 rfl (lv_at hl 1 rfl) ?_
    refine tk_get (k := k1) (v := .ref (ad (k1 + 1))) hx hb hts hown w h_1 rfl inlX3 3 (by decide) mw_666 rfl dX7_press_30 ?_
    refine lv_iconst (v := 1) hx hb dX7_press_33 (by decide) ?_
    refine tk_iald (k := k1 + 1) hx hb w (tk_s1 h_1) (by unfold vp_in; decide) dX7_press_34 ?_
    refine lv_ishl hx hb dX7_press_35 ?_
    refine lv_ior hx hb dX7_press_36 ?_
    refine lv_topi (fun z2 e_z2 => ?_)
    have h := h z2 e_z2
    refine lv_istore_n (lv' := [(3, .int z2), (0, .ref (ad 0)), (1, .ref (ad k1)), (2, .int x2)]) hx hb dX7_press_37 rfl hl (by decide) rfl (fun ls hl => ?_)
    refine lv_aload_n hx hb dX7_press_38 rfl (lv_at hl 2 rfl) ?_
    refine tk_get (k := k1) (v := .ref (ad (k1 + 2))) hx hb hts hown w h_1 rfl inlX3 4 (by decide) mw_667 rfl dX7_press_39 ?_
    refine lv_iconst (v := 0) hx hb dX7_press_42 (by decide) ?_
    refine tk_iald (k := k1 + 2) hx hb w (tk_s2 h_1) (by unfold vp_in; decide) dX7_press_43 ?_
    refine lv_topi (fun z3 e_z3 => ?_)
    have h := h z3 e_z3
    refine lv_istore (lv' := [(4, .int z3), (3, .int z2), (0, .ref (ad 0)), (1, .ref (ad k1)), (2, .int x2)]) hx hb dX7_press_44 hl (by decide) rfl (fun ls hl => ?_)
    exact h _ _ _ _ _ _ _ _ _ _ _ _ _ _ _ _ C w (lv_sub hl [2, 3, 4, 1, 0] rfl)
  · have h := h.2 c1
    refine lv_aload_n hx hb dX7_press_8 rfl (lv_at hl 0 rfl) ?_
    refine tk_get (k := 0) (v := .ref (ad 52)) hx hb hts hown w rfl rfl inlX7 17 (by decide) mw_42 rfl dX7_press_9 ?_
    refine lv_aload_n hx hb dX7_press_12 rfl (lv_at hl 1 rfl) ?_
    refine tk_get (k := k1) (v := .ref (ad (k1 + 3))) hx hb hts hown w h_1 rfl inlX3 5 (by decide) mw_209 rfl dX7_press_13 ?_
    refine tk_cV C w (k := 52) rfl rfl (as := [aN (k1 + 3)]) (rest := []) mw_673 mw_23 mw_670 mw_671 mw_672 hd_X2_join (by decide) hl.1 (Nat.le_of_ble_eq_true rfl) rfl dX7_press_16 h (fun r4 σ5 H locs hq w => ?_)
    obtain ⟨rfl, h⟩ := hq
    refine W.eq (g2 := F0 m 19 ls []) rfl ?_
    exact tk_retv C w dX7_press_19 h
theorem e_X7_press (d : Nat) (k1 : Nat) (x2 : Int32) {σ : tk_S} {Q : tk_S → Prop} (h : g_X7_press d 0 [(0, aN 0), (1, aN k1), (2, aI x2)] σ Q) : p_X7_press d [aN 0, aN k1, aI x2] σ Q := tk_entry (by decide) rfl (fun _ => Nat.le_of_ble_eq_true rfl) (fun _ => rfl) h
abbrev g_X7_rowOfTexture (d pc : Nat) (vals : List (Nat × tk_V)) (σ : tk_S) (Q : Int32 → tk_S → Prop) : Prop := tk_G RX7 cX7_rowOfTexture 3 (some .int) d pc vals σ (tk_i Q)
set_option maxHeartbeats 4000000 in
set_option maxRecDepth 100000 in
theorem b_X7_rowOfTexture_12 (d : Nat) (x0 : Int32) (x2 : Int32) (σ : tk_S) (Q : Int32 → tk_S → Prop) (h : (x0 = 0 → Q 0 σ) ∧ (x0 = 1 → (x2 = 0 → Q (-5592406) σ) ∧ (¬ x2 = 0 → Q 5592405 σ)) ∧ (x0 = 2 → Q 5592405 σ) ∧ (x0 = 3 → (x2 = 0 → Q 0 σ) ∧ (¬ x2 = 0 → Q 16777215 σ)) ∧ (¬ x0 = 0 → ¬ x0 = 1 → ¬ x0 = 2 → ¬ x0 = 3 → Q 16777215 σ)) : g_X7_rowOfTexture d 12 [(0, aI x0), (2, aI x2)] σ Q := by
  intro p l e s m args below meth c D cy ad base H locs ls C w hl
  obtain ⟨hx, hb, hml, hown, hts, hr, hlk⟩ := id C
  have hl : lv_has ls 3 [(0, .int x0), (2, .int x2)] := hl
  refine lv_iload_n hx hb dX7_rowOfTexture_12 rfl (lv_at hl 0 rfl) ?_
  by_cases c1 : x0 = 0
  · have h := h.1 c1
    refine lv_tableIn (off := 31) (tgt := 44) hx hb dX7_rowOfTexture_13 (by rw [c1]; decide) (by rw [c1]; decide) (by rw [c1]; rfl) (by decide) ?_
    refine lv_iconst (v := 0) hx hb dX7_rowOfTexture_44 (by decide) ?_
    exact tk_reti C w dX7_rowOfTexture_45 h
  · have h := h.2
    by_cases c2 : x0 = 1
    · have h := h.1 c2
      refine lv_tableIn (off := 33) (tgt := 46) hx hb dX7_rowOfTexture_13 (by rw [c2]; decide) (by rw [c2]; decide) (by rw [c2]; rfl) (by decide) ?_
      refine lv_iload_n hx hb dX7_rowOfTexture_46 rfl (lv_at hl 1 rfl) ?_
      refine lv_if_eq (tgt := 56) hx hb dX7_rowOfTexture_47 (by decide) (fun c3 => ?_) (fun c3 => ?_)
      · have h := h.1 c3
        refine lv_ldcw (v := (-5592406)) hx hb hown (hts _ mw_678) dX7_rowOfTexture_56 ?_
        exact tk_reti C w dX7_rowOfTexture_59 h
      · have h := h.2 c3
        refine lv_ldcw (v := 5592405) hx hb hown (hts _ mw_677) dX7_rowOfTexture_50 ?_
        refine lv_goto (tgt := 59) hx hb dX7_rowOfTexture_53 (by decide) ?_
        exact tk_reti C w dX7_rowOfTexture_59 h
    · have h := h.2
      by_cases c4 : x0 = 2
      · have h := h.1 c4
        refine lv_tableIn (off := 47) (tgt := 60) hx hb dX7_rowOfTexture_13 (by rw [c4]; decide) (by rw [c4]; decide) (by rw [c4]; rfl) (by decide) ?_
        refine lv_ldcw (v := 5592405) hx hb hown (hts _ mw_677) dX7_rowOfTexture_60 ?_
        exact tk_reti C w dX7_rowOfTexture_63 h
      · have h := h.2
        by_cases c5 : x0 = 3
        · have h := h.1 c5
          refine lv_tableIn (off := 51) (tgt := 64) hx hb dX7_rowOfTexture_13 (by rw [c5]; decide) (by rw [c5]; decide) (by rw [c5]; rfl) (by decide) ?_
          refine lv_iload_n hx hb dX7_rowOfTexture_64 rfl (lv_at hl 1 rfl) ?_
          refine lv_if_eq (tgt := 74) hx hb dX7_rowOfTexture_65 (by decide) (fun c6 => ?_) (fun c6 => ?_)
          · have h := h.1 c6
            refine lv_iconst (v := 0) hx hb dX7_rowOfTexture_74 (by decide) ?_
            exact tk_reti C w dX7_rowOfTexture_75 h
          · have h := h.2 c6
            refine lv_ldcw (v := 16777215) hx hb hown (hts _ mw_668) dX7_rowOfTexture_68 ?_
            refine lv_goto (tgt := 75) hx hb dX7_rowOfTexture_71 (by decide) ?_
            exact tk_reti C w dX7_rowOfTexture_75 h
        · have h := h.2
          have h := h c1
          have h := h c2
          have h := h c4
          have h := h c5
          refine lv_tableOut (tgt := 76) hx hb dX7_rowOfTexture_13 (by have := lv_neT c1 (a := 0) rfl; have := lv_neT c2 (a := 1) rfl; have := lv_neT c4 (a := 2) rfl; have := lv_neT c5 (a := 3) rfl; omega) (by decide) ?_
          refine lv_ldcw (v := 16777215) hx hb hown (hts _ mw_668) dX7_rowOfTexture_76 ?_
          exact tk_reti C w dX7_rowOfTexture_79 h
set_option maxHeartbeats 4000000 in
set_option maxRecDepth 100000 in
theorem b_X7_rowOfTexture_0 (d : Nat) (x0 : Int32) (x1 : Int32) (σ : tk_S) (Q : Int32 → tk_S → Prop) (h : (¬ (x1 - x1 / 2 * 2) = 0 → g_X7_rowOfTexture d 12 [(0, aI x0), (2, aI 0)] σ Q) ∧ ((x1 - x1 / 2 * 2) = 0 → g_X7_rowOfTexture d 12 [(0, aI x0), (2, aI 1)] σ Q)) : g_X7_rowOfTexture d 0 [(0, aI x0), (1, aI x1)] σ Q := by
  intro p l e s m args below meth c D cy ad base H locs ls C w hl
  obtain ⟨hx, hb, hml, hown, hts, hr, hlk⟩ := id C
  have hl : lv_has ls 3 [(0, .int x0), (1, .int x1)] := hl
  refine lv_iload_n hx hb dX7_rowOfTexture_0 rfl (lv_at hl 1 rfl) ?_
  refine lv_iconst (v := 2) hx hb dX7_rowOfTexture_1 (by decide) ?_
  refine lv_irem hx hb dX7_rowOfTexture_2 (by decide) ?_
  refine lv_if_ne (tgt := 10) hx hb dX7_rowOfTexture_3 (by decide) (fun c1 => ?_) (fun c1 => ?_)
  · have h := h.1 c1
    refine lv_iconst (v := 0) hx hb dX7_rowOfTexture_10 (by decide) ?_
    refine lv_istore_n (lv' := [(2, .int 0), (0, .int x0), (1, .int x1)]) hx hb dX7_rowOfTexture_11 rfl hl (by decide) rfl (fun ls hl => ?_)
    exact h _ _ _ _ _ _ _ _ _ _ _ _ _ _ _ _ C w (lv_sub hl [1, 0] rfl)
  · have h := h.2 c1
    refine lv_iconst (v := 1) hx hb dX7_rowOfTexture_6 (by decide) ?_
    refine lv_goto (tgt := 11) hx hb dX7_rowOfTexture_7 (by decide) ?_
    refine lv_istore_n (lv' := [(2, .int 1), (0, .int x0), (1, .int x1)]) hx hb dX7_rowOfTexture_11 rfl hl (by decide) rfl (fun ls hl => ?_)
    exact h _ _ _ _ _ _ _ _ _ _ _ _ _ _ _ _ C w (lv_sub hl [1, 0] rfl)
theorem e_X7_rowOfTexture (d : Nat) (x0 : Int32) (x1 : Int32) {σ : tk_S} {Q : Int32 → tk_S → Prop} (h : g_X7_rowOfTexture d 0 [(0, aI x0), (1, aI x1)] σ Q) : p_X7_rowOfTexture d [aI x0, aI x1] σ Q := tk_entry (by decide) rfl (fun _ => Nat.le_of_ble_eq_true rfl) (fun _ => rfl) h
abbrev g_X7_heaviest (d pc : Nat) (vals : List (Nat × tk_V)) (σ : tk_S) (Q : Int32 → tk_S → Prop) : Prop := tk_G RX7 cX7_heaviest 7 (some .int) d pc vals σ (tk_i Q)
set_option maxHeartbeats 4000000 in
set_option maxRecDepth 100000 in
theorem b_X7_heaviest_25 (d : Nat) (x1 : Int32) (k2 : Nat) (h_2 : tk_sh k2 = tk_ia 12) (k3 : Nat) (h_3 : tk_sh k3 = tk_ia 12) (x4 : Int32) (σ : tk_S) (Q : Int32 → tk_S → Prop) (h : (0 ≤ x4 → ∀ z2 : Int32, z2 = x1 &&& (((1 : Int32) <<< (x4 &&& 31)) - 1) → (vp_in x4 12 ∧ (vp_in x4 12 ∧ (p_X7_heaviest d [aI x4, aI (z2 &&& ((σ.1 k2 (Int32.toNatClampNeg x4)) ^^^ (-1))), aN k2, aN k3] σ (fun y7 σ6 => ∀ z8 : Int32, z8 = (σ.1 k3 (Int32.toNatClampNeg x4)) + y7 → (vp_in x4 12 ∧ ((¬ (z2 &&& (σ6.1 k2 (Int32.toNatClampNeg x4))) = 0 → p_X7_heaviest d [aI x4, aI z2, aN k2, aN k3] σ6 (fun y13 σ12 => Q (if z8 < y13 then y13 else z8) σ12)) ∧ ((z2 &&& (σ6.1 k2 (Int32.toNatClampNeg x4))) = 0 → Q z8 σ6)))))))) ∧ (¬ 0 ≤ x4 → Q 0 σ)) : g_X7_heaviest (d + 1) 25 [(1, aI x1), (2, aN k2), (3, aN k3), (4, aI x4)] σ Q := by
  intro p l e s m args below meth c D cy ad base H locs ls C w hl
  obtain ⟨hx, hb, hml, hown, hts, hr, hlk⟩ := id C
  have hl : lv_has ls 7 [(1, .int x1), (2, .ref (ad k2)), (3, .ref (ad k3)), (4, .int x4)] := hl
  refine lv_iload hx hb dX7_heaviest_25 (lv_at hl 3 rfl) ?_
  refine lv_if_ge (tgt := 32) hx hb dX7_heaviest_27 (by decide) (fun c1 => ?_) (fun c1 => ?_)
  · have h := h.1 c1
    refine lv_iload_n hx hb dX7_heaviest_32 rfl (lv_at hl 0 rfl) ?_
    refine lv_iconst (v := 1) hx hb dX7_heaviest_33 (by decide) ?_
    refine lv_iload hx hb dX7_heaviest_34 (lv_at hl 3 rfl) ?_
    refine lv_ishl hx hb dX7_heaviest_36 ?_
    refine lv_iconst (v := 1) hx hb dX7_heaviest_37 (by decide) ?_
    refine lv_isub hx hb dX7_heaviest_38 ?_
    refine lv_iand hx hb dX7_heaviest_39 ?_
    refine lv_topi (fun z2 e_z2 => ?_)
    have h := h z2 e_z2
    refine lv_istore (lv' := [(5, .int z2), (1, .int x1), (2, .ref (ad k2)), (3, .ref (ad k3)), (4, .int x4)]) hx hb dX7_heaviest_40 hl (by decide) rfl (fun ls hl => ?_)
    refine lv_aload_n hx hb dX7_heaviest_42 rfl (lv_at hl 3 rfl) ?_
    refine lv_iload hx hb dX7_heaviest_43 (lv_at hl 4 rfl) ?_
    obtain ⟨hi3, h⟩ := h
    refine tk_iald (k := k3) hx hb w h_3 hi3 dX7_heaviest_45 ?_
    refine lv_iload hx hb dX7_heaviest_46 (lv_at hl 4 rfl) ?_
    refine lv_iload hx hb dX7_heaviest_48 (lv_at hl 0 rfl) ?_
    refine lv_aload_n hx hb dX7_heaviest_50 rfl (lv_at hl 2 rfl) ?_
    refine lv_iload hx hb dX7_heaviest_51 (lv_at hl 4 rfl) ?_
    obtain ⟨hi4, h⟩ := h
    refine tk_iald (k := k2) hx hb w h_2 hi4 dX7_heaviest_53 ?_
    refine lv_iconst (v := (-1)) hx hb dX7_heaviest_54 (by decide) ?_
    refine lv_ixor hx hb dX7_heaviest_55 ?_
    refine lv_iand hx hb dX7_heaviest_56 ?_
    refine lv_aload_n hx hb dX7_heaviest_57 rfl (lv_at hl 2 rfl) ?_
    refine lv_aload_n hx hb dX7_heaviest_58 rfl (lv_at hl 3 rfl) ?_
    refine tk_cS C w (as := [aI x4, aI (z2 &&& ((σ.1 k2 (Int32.toNatClampNeg x4)) ^^^ (-1))), aN k2, aN k3]) (rest := [.int (σ.1 k3 (Int32.toNatClampNeg x4))]) mw_494 mw_2 mw_496 mw_493 hd_X7_heaviest (by decide) hl.1 (Nat.le_of_ble_eq_true rfl) rfl dX7_heaviest_59 h (fun r5 σ6 H locs hq w => ?_)
    obtain ⟨y7, rfl, h⟩ := hq
    refine W.eq (g2 := F0 m 62 ls [.int y7, .int (σ.1 k3 (Int32.toNatClampNeg x4))]) rfl ?_
    refine lv_iadd hx hb dX7_heaviest_62 ?_
    refine lv_topi (fun z8 e_z8 => ?_)
    have h := h z8 e_z8
    refine lv_istore (lv' := [(6, .int z8), (5, .int z2), (1, .int x1), (2, .ref (ad k2)), (3, .ref (ad k3)), (4, .int x4)]) hx hb dX7_heaviest_63 hl (by decide) rfl (fun ls hl => ?_)
    refine lv_iload hx hb dX7_heaviest_65 (lv_at hl 1 rfl) ?_
    refine lv_aload_n hx hb dX7_heaviest_67 rfl (lv_at hl 3 rfl) ?_
    refine lv_iload hx hb dX7_heaviest_68 (lv_at hl 5 rfl) ?_
    obtain ⟨hi9, h⟩ := h
    refine tk_iald (k := k2) hx hb w h_2 hi9 dX7_heaviest_70 ?_
    refine lv_iand hx hb dX7_heaviest_71 ?_
    refine lv_if_ne (tgt := 78) hx hb dX7_heaviest_72 (by decide) (fun c10 => ?_) (fun c10 => ?_)
    · have h := h.1 c10
      refine lv_iload hx hb dX7_heaviest_78 (lv_at hl 0 rfl) ?_
      refine lv_iload hx hb dX7_heaviest_80 (lv_at hl 5 rfl) ?_
      refine lv_iload hx hb dX7_heaviest_82 (lv_at hl 1 rfl) ?_
      refine lv_aload_n hx hb dX7_heaviest_84 rfl (lv_at hl 3 rfl) ?_
      refine lv_aload_n hx hb dX7_heaviest_85 rfl (lv_at hl 4 rfl) ?_
      refine tk_cS C w (as := [aI x4, aI z2, aN k2, aN k3]) (rest := [.int z8]) mw_494 mw_2 mw_496 mw_493 hd_X7_heaviest (by decide) hl.1 (Nat.le_of_ble_eq_true rfl) rfl dX7_heaviest_86 h (fun r11 σ12 H locs hq w => ?_)
      obtain ⟨y13, rfl, h⟩ := hq
      refine W.eq (g2 := F0 m 89 ls [.int y13, .int z8]) rfl ?_
      refine va_mmax hx hb (by rw [hml]; exact hl.1.symm) hown (hts _ mw_495) (hts _ mw_190) (hts _ mw_187) (hts _ mw_191) (Nat.succ_le_succ (Nat.zero_le _)) (Nat.le_trans (m := 64) (Nat.le_of_ble_eq_true rfl) (by show 64 ≤ 64 * (d + 1); omega)) (Nat.le_refl _) (Nat.le_refl _) dX7_heaviest_89 ?_
      exact tk_reti C w dX7_heaviest_92 h
    · have h := h.2 c10
      refine lv_iload hx hb dX7_heaviest_75 (lv_at hl 0 rfl) ?_
      exact tk_reti C w dX7_heaviest_77 h
  · have h := h.2 c1
    refine lv_iconst (v := 0) hx hb dX7_heaviest_30 (by decide) ?_
    exact tk_reti C w dX7_heaviest_31 h
set_option maxHeartbeats 4000000 in
set_option maxRecDepth 100000 in
theorem b_X7_heaviest_5 (d : Nat) (x1 : Int32) (k2 : Nat) (h_2 : tk_sh k2 = tk_ia 12) (k3 : Nat) (h_3 : tk_sh k3 = tk_ia 12) (x4 : Int32) (σ : tk_S) (Q : Int32 → tk_S → Prop) (h : (x4 < 0 → g_X7_heaviest (d + 1) 25 [(1, aI x1), (2, aN k2), (3, aN k3), (4, aI x4)] σ Q) ∧ (¬ x4 < 0 → p_X7_has d [aI x1, aI x4] σ (fun y4 σ3 => (¬ y4 = 0 → g_X7_heaviest (d + 1) 25 [(1, aI x1), (2, aN k2), (3, aN k3), (4, aI x4)] σ3 Q) ∧ (y4 = 0 → g_X7_heaviest (d + 1) 5 [(1, aI x1), (2, aN k2), (3, aN k3), (4, aI (x4 + (-1)))] σ3 Q)))) : g_X7_heaviest (d + 1) 5 [(1, aI x1), (2, aN k2), (3, aN k3), (4, aI x4)] σ Q := by
  intro p l e s m args below meth c D cy ad base H locs ls C w hl
  obtain ⟨hx, hb, hml, hown, hts, hr, hlk⟩ := id C
  have hl : lv_has ls 7 [(1, .int x1), (2, .ref (ad k2)), (3, .ref (ad k3)), (4, .int x4)] := hl
  refine lv_iload hx hb dX7_heaviest_5 (lv_at hl 3 rfl) ?_
  refine lv_if_lt (tgt := 25) hx hb dX7_heaviest_7 (by decide) (fun c1 => ?_) (fun c1 => ?_)
  · have h := h.1 c1
    exact h _ _ _ _ _ _ _ _ _ _ _ _ _ _ _ _ C w (lv_sub hl [0, 1, 2, 3] rfl)
  · have h := h.2 c1
    refine lv_iload_n hx hb dX7_heaviest_10 rfl (lv_at hl 0 rfl) ?_
    refine lv_iload hx hb dX7_heaviest_11 (lv_at hl 3 rfl) ?_
    refine tk_cS C w (as := [aI x1, aI x4]) (rest := []) mw_216 mw_2 mw_214 mw_215 hd_X7_has (by decide) hl.1 (Nat.le_of_ble_eq_true rfl) rfl dX7_heaviest_13 h (fun r2 σ3 H locs hq w => ?_)
    obtain ⟨y4, rfl, h⟩ := hq
    refine W.eq (g2 := F0 m 16 ls [.int y4]) rfl ?_
    refine lv_if_ne (tgt := 25) hx hb dX7_heaviest_16 (by decide) (fun c5 => ?_) (fun c5 => ?_)
    · have h := h.1 c5
      exact h _ _ _ _ _ _ _ _ _ _ _ _ _ _ _ _ C w (lv_sub hl [0, 1, 2, 3] rfl)
    · have h := h.2 c5
      refine lv_iinc (v := x4 + (-1)) (lv' := [(4, .int (x4 + (-1))), (1, .int x1), (2, .ref (ad k2)), (3, .ref (ad k3))]) hx hb dX7_heaviest_19 hl (k := 3) rfl rfl (by decide) rfl (fun ls hl => ?_)
      refine lv_goto (tgt := 5) hx hb dX7_heaviest_22 (by decide) ?_
      exact h _ _ _ _ _ _ _ _ _ _ _ _ _ _ _ _ C w (lv_sub hl [1, 2, 3, 0] rfl)
set_option maxHeartbeats 4000000 in
set_option maxRecDepth 100000 in
theorem b_X7_heaviest_0 (d : Nat) (x0 : Int32) (x1 : Int32) (k2 : Nat) (h_2 : tk_sh k2 = tk_ia 12) (k3 : Nat) (h_3 : tk_sh k3 = tk_ia 12) (σ : tk_S) (Q : Int32 → tk_S → Prop) (h : ∀ z1 : Int32, z1 = x0 - 1 → (g_X7_heaviest (d + 1) 5 [(1, aI x1), (2, aN k2), (3, aN k3), (4, aI z1)] σ Q)) : g_X7_heaviest (d + 1) 0 [(0, aI x0), (1, aI x1), (2, aN k2), (3, aN k3)] σ Q := by
  intro p l e s m args below meth c D cy ad base H locs ls C w hl
  obtain ⟨hx, hb, hml, hown, hts, hr, hlk⟩ := id C
  have hl : lv_has ls 7 [(0, .int x0), (1, .int x1), (2, .ref (ad k2)), (3, .ref (ad k3))] := hl
  refine lv_iload_n hx hb dX7_heaviest_0 rfl (lv_at hl 0 rfl) ?_
  refine lv_iconst (v := 1) hx hb dX7_heaviest_1 (by decide) ?_
  refine lv_isub hx hb dX7_heaviest_2 ?_
  refine lv_topi (fun z1 e_z1 => ?_)
  have h := h z1 e_z1
  refine lv_istore (lv' := [(4, .int z1), (0, .int x0), (1, .int x1), (2, .ref (ad k2)), (3, .ref (ad k3))]) hx hb dX7_heaviest_3 hl (by decide) rfl (fun ls hl => ?_)
  exact h _ _ _ _ _ _ _ _ _ _ _ _ _ _ _ _ C w (lv_sub hl [2, 3, 4, 0] rfl)
theorem e_X7_heaviest (d : Nat) (x0 : Int32) (x1 : Int32) (k2 : Nat) (k3 : Nat) {σ : tk_S} {Q : Int32 → tk_S → Prop} (h : g_X7_heaviest d 0 [(0, aI x0), (1, aI x1), (2, aN k2), (3, aN k3)] σ Q) : p_X7_heaviest d [aI x0, aI x1, aN k2, aN k3] σ Q := tk_entry (by decide) rfl (fun _ => Nat.le_of_ble_eq_true rfl) (fun _ => rfl) h
