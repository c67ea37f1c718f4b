abbrev g_X8_isIn (d pc : Nat) (vals : List (Nat × tk_V)) (σ : tk_S) (Q : Int32 → tk_S → Prop) : Prop := tk_G RX8 cX8_isIn 3 (some .boolean) d pc vals σ (tk_i Q)
set_option maxHeartbeats 4000000 in
set_option maxRecDepth 100000 in
theorem b_X8_isIn_0 (d : Nat) (x0 : Int32) (x1 : Int32) (x2 : Int32) (σ : tk_S) (Q : Int32 → tk_S → Prop) (h : (x0 < x1 → Q 0 σ) ∧ (¬ x0 < x1 → (x2 < x0 → Q 0 σ) ∧ (¬ x2 < x0 → Q 1 σ))) : g_X8_isIn d 0 [(0, aI x0), (1, aI x1), (2, aI x2)] σ Q := by
  intro p l e s m args below meth c D cy ad base H locs ls C w hl
  obtain ⟨hx, hb, hml, hown, hts, hr, hlk⟩ := id C
  have hl : lv_has ls 3 [(0, .int x0), (1, .int x1), (2, .int x2)] := hl
  refine lv_iload_n hx hb dX8_isIn_0 rfl (lv_at hl 0 rfl) ?_
  refine lv_iload_n hx hb dX8_isIn_1 rfl (lv_at hl 1 rfl) ?_
  refine lv_icmp_lt (tgt := 14) hx hb dX8_isIn_2 (by decide) (fun c1 => ?_) (fun c1 => ?_)
  · have h := h.1 c1
    refine lv_iconst (v := 0) hx hb dX8_isIn_14 (by decide) ?_
    exact tk_retz C w dX8_isIn_15 rfl h
  · have h := h.2 c1
    refine lv_iload_n hx hb dX8_isIn_5 rfl (lv_at hl 0 rfl) ?_
    refine lv_iload_n hx hb dX8_isIn_6 rfl (lv_at hl 2 rfl) ?_
    refine lv_icmp_gt (tgt := 14) hx hb dX8_isIn_7 (by decide) (fun c2 => ?_) (fun c2 => ?_)
    · have h := h.1 c2
      refine lv_iconst (v := 0) hx hb dX8_isIn_14 (by decide) ?_
      exact tk_retz C w dX8_isIn_15 rfl h
    · have h := h.2 c2
      refine lv_iconst (v := 1) hx hb dX8_isIn_10 (by decide) ?_
      refine lv_goto (tgt := 15) hx hb dX8_isIn_11 (by decide) ?_
      exact tk_retz C w dX8_isIn_15 rfl h
theorem e_X8_isIn (d : Nat) (x0 : Int32) (x1 : Int32) (x2 : Int32) {σ : tk_S} {Q : Int32 → tk_S → Prop} (h : g_X8_isIn d 0 [(0, aI x0), (1, aI x1), (2, aI x2)] σ Q) : p_X8_isIn d [aI x0, aI x1, aI x2] σ Q := tk_entry (by decide) rfl (fun _ => Nat.le_of_ble_eq_true rfl) (fun _ => rfl) h
abbrev g_X8_isPin (d pc : Nat) (vals : List (Nat × tk_V)) (σ : tk_S) (Q : Int32 → tk_S → Prop) : Prop := tk_G RX8 cX8_isPin 2 (some .boolean) d pc vals σ (tk_i Q)
set_option maxHeartbeats 4000000 in
set_option maxRecDepth 100000 in
theorem b_X8_isPin_0 (d : Nat) (x0 : Int32) (x1 : Int32) (σ : tk_S) (Q : Int32 → tk_S → Prop) (h : p_X8_isIn d [aI x0, aI 0, aI 23] σ (fun y3 σ2 => (y3 = 0 → Q 0 σ2) ∧ (¬ y3 = 0 → p_X8_isIn d [aI x1, aI 0, aI 23] σ2 (fun y7 σ6 => (y7 = 0 → Q 0 σ6) ∧ (¬ y7 = 0 → Q 1 σ6))))) : g_X8_isPin (d + 1) 0 [(0, aI x0), (1, aI x1)] σ Q := by
  intro p l e s m args below meth c D cy ad base H locs ls C w hl
  obtain ⟨hx, hb, hml, hown, hts, hr, hlk⟩ := id C
  have hl : lv_has ls 2 [(0, .int x0), (1, .int x1)] := hl
  refine lv_iload_n hx hb dX8_isPin_0 rfl (lv_at hl 0 rfl) ?_
  refine lv_iconst (v := 0) hx hb dX8_isPin_1 (by decide) ?_
  refine lv_bipush (v := 23) hx hb dX8_isPin_2 (by decide) ?_
  refine tk_cS C w (as := [aI x0, aI 0, aI 23]) (rest := []) mw_140 mw_5 mw_138 mw_139 hd_X8_isIn (by decide) hl.1 (Nat.le_of_ble_eq_true rfl) rfl dX8_isPin_4 h (fun r1 σ2 H locs hq w => ?_)
  obtain ⟨y3, rfl, h⟩ := hq
  refine W.eq (g2 := F0 m 7 ls [.int y3]) rfl ?_
  refine lv_if_eq (tgt := 24) hx hb dX8_isPin_7 (by decide) (fun c4 => ?_) (fun c4 => ?_)
  · have h := h.1 c4
    refine lv_iconst (v := 0) hx hb dX8_isPin_24 (by decide) ?_
    exact tk_retz C w dX8_isPin_25 rfl h
  · have h := h.2 c4
    refine lv_iload_n hx hb dX8_isPin_10 rfl (lv_at hl 1 rfl) ?_
    refine lv_iconst (v := 0) hx hb dX8_isPin_11 (by decide) ?_
    refine lv_bipush (v := 23) hx hb dX8_isPin_12 (by decide) ?_
    refine tk_cS C w (as := [aI x1, aI 0, aI 23]) (rest := []) mw_140 mw_5 mw_138 mw_139 hd_X8_isIn (by decide) hl.1 (Nat.le_of_ble_eq_true rfl) rfl dX8_isPin_14 h (fun r5 σ6 H locs hq w => ?_)
    obtain ⟨y7, rfl, h⟩ := hq
    refine W.eq (g2 := F0 m 17 ls [.int y7]) rfl ?_
    refine lv_if_eq (tgt := 24) hx hb dX8_isPin_17 (by decide) (fun c8 => ?_) (fun c8 => ?_)
    · have h := h.1 c8
      refine lv_iconst (v := 0) hx hb dX8_isPin_24 (by decide) ?_
      exact tk_retz C w dX8_isPin_25 rfl h
    · have h := h.2 c8
      refine lv_iconst (v := 1) hx hb dX8_isPin_20 (by decide) ?_
      refine lv_goto (tgt := 25) hx hb dX8_isPin_21 (by decide) ?_
      exact tk_retz C w dX8_isPin_25 rfl h
theorem e_X8_isPin (d : Nat) (x0 : Int32) (x1 : Int32) {σ : tk_S} {Q : Int32 → tk_S → Prop} (h : g_X8_isPin d 0 [(0, aI x0), (1, aI x1)] σ Q) : p_X8_isPin d [aI x0, aI x1] σ Q := tk_entry (by decide) rfl (fun _ => Nat.le_of_ble_eq_true rfl) (fun _ => rfl) h
abbrev g_X8_isShape (d pc : Nat) (vals : List (Nat × tk_V)) (σ : tk_S) (Q : Int32 → tk_S → Prop) : Prop := tk_G RX8 cX8_isShape 2 (some .boolean) d pc vals σ (tk_i Q)
set_option maxHeartbeats 4000000 in
set_option maxRecDepth 100000 in
theorem b_X8_isShape_0 (d : Nat) (x1 : Int32) (σ : tk_S) (Q : Int32 → tk_S → Prop) (h : p_X8_isIn d [aI x1, aI 0, aI ((σ.1 132 0) - 1)] σ (fun y3 σ2 => narrow .boolean (.int y3) = .int y3 ∧ Q y3 σ2)) : g_X8_isShape (d + 1) 0 [(0, aN 132), (1, aI x1)] σ Q := by
  intro p l e s m args below meth c D cy ad base H locs ls C w hl
  obtain ⟨hx, hb, hml, hown, hts, hr, hlk⟩ := id C
  have hl : lv_has ls 2 [(0, .ref (ad 132)), (1, .int x1)] := hl
  refine lv_iload_n hx hb dX8_isShape_0 rfl (lv_at hl 1 rfl) ?_
  refine lv_iconst (v := 0) hx hb dX8_isShape_1 (by decide) ?_
  refine lv_aload_n hx hb dX8_isShape_2 rfl (lv_at hl 0 rfl) ?_
  refine tk_get (k := 132) (v := .int (σ.1 132 0)) hx hb hts hown w rfl rfl inlX8 0 (by decide) mw_244 rfl dX8_isShape_3 ?_
  refine lv_iconst (v := 1) hx hb dX8_isShape_6 (by decide) ?_
  refine lv_isub hx hb dX8_isShape_7 ?_
  refine tk_cS C w (as := [aI x1, aI 0, aI ((σ.1 132 0) - 1)]) (rest := []) mw_140 mw_5 mw_138 mw_139 hd_X8_isIn (by decide) hl.1 (Nat.le_of_ble_eq_true rfl) rfl dX8_isShape_8 h (fun r1 σ2 H locs hq w => ?_)
  obtain ⟨y3, rfl, h⟩ := hq
  refine W.eq (g2 := F0 m 11 ls [.int y3]) rfl ?_
  exact tk_retz C w dX8_isShape_11 h.1 h.2
theorem e_X8_isShape (d : Nat) (x1 : Int32) {σ : tk_S} {Q : Int32 → tk_S → Prop} (h : g_X8_isShape d 0 [(0, aN 132), (1, aI x1)] σ Q) : p_X8_isShape d [aN 132, aI x1] σ Q := tk_entry (by decide) rfl (fun _ => Nat.le_of_ble_eq_true rfl) (fun _ => rfl) h
abbrev g_X8_corner (d pc : Nat) (vals : List (Nat × tk_V)) (σ : tk_S) (Q : Int32 → tk_S → Prop) : Prop := tk_G RX8 cX8_corner 3 (some .int) d pc vals σ (tk_i Q)
set_option maxHeartbeats 4000000 in
set_option maxRecDepth 100000 in
theorem b_X8_corner_0 (d : Nat) (x1 : Int32) (x2 : Int32) (σ : tk_S) (Q : Int32 → tk_S → Prop) (h : p_X8_isPin d [aI x1, aI x2] σ (fun y3 σ2 => (y3 = 0 → Q (-1) σ2) ∧ (¬ y3 = 0 → (¬ (σ2.1 132 1) = 8 → vp_in (σ2.1 132 1) 8 ∧ (vp_in ((tk_up σ2 133 (Int32.toNatClampNeg (σ2.1 132 1)) x1).1 132 1) 8 ∧ (∀ σ8 : tk_S, σ8 = tk_up (tk_up σ2 133 (Int32.toNatClampNeg (σ2.1 132 1)) x1) 134 (Int32.toNatClampNeg ((tk_up σ2 133 (Int32.toNatClampNeg (σ2.1 132 1)) x1).1 132 1)) x2 → Q ((tk_up σ8 132 1 ((σ8.1 132 1) + 1)).1 132 1) (tk_up σ8 132 1 ((σ8.1 132 1) + 1))))) ∧ ((σ2.1 132 1) = 8 → Q (-1) σ2)))) : g_X8_corner (d + 1) 0 [(0, aN 132), (1, aI x1), (2, aI x2)] σ Q := by
  intro p l e s m args below meth c D cy ad base H locs ls C w hl
  obtain ⟨hx, hb, hml, hown, hts, hr, hlk⟩ := id C
  have hl : lv_has ls 3 [(0, .ref (ad 132)), (1, .int x1), (2, .int x2)] := hl
  refine lv_iload_n hx hb dX8_corner_0 rfl (lv_at hl 1 rfl) ?_
  refine lv_iload_n hx hb dX8_corner_1 rfl (lv_at hl 2 rfl) ?_
  refine tk_cS C w (as := [aI x1, aI x2]) (rest := []) mw_137 mw_5 mw_135 mw_136 hd_X8_isPin (by decide) hl.1 (Nat.le_of_ble_eq_true rfl) rfl dX8_corner_2 h (fun r1 σ2 H locs hq w => ?_)
  obtain ⟨y3, rfl, h⟩ := hq
  refine W.eq (g2 := F0 m 5 ls [.int y3]) rfl ?_
  refine lv_if_eq (tgt := 17) hx hb dX8_corner_5 (by decide) (fun c4 => ?_) (fun c4 => ?_)
  · have h := h.1 c4
    refine lv_iconst (v := (-1)) hx hb dX8_corner_17 (by decide) ?_
    exact tk_reti C w dX8_corner_18 h
  · have h := h.2 c4
    refine lv_aload_n hx hb dX8_corner_8 rfl (lv_at hl 0 rfl) ?_
    refine tk_get (k := 132) (v := .int (σ2.1 132 1)) hx hb hts hown w rfl rfl inlX8 1 (by decide) mw_134 rfl dX8_corner_9 ?_
    refine lv_bipush (v := 8) hx hb dX8_corner_12 (by decide) ?_
    refine lv_icmp_ne (tgt := 19) hx hb dX8_corner_14 (by decide) (fun c5 => ?_) (fun c5 => ?_)
    · have h := h.1 c5
      refine lv_aload_n hx hb dX8_corner_19 rfl (lv_at hl 0 rfl) ?_
      refine tk_get (k := 132) (v := .ref (ad 133)) hx hb hts hown w rfl rfl inlX8 3 (by decide) mw_101 rfl dX8_corner_20 ?_
      refine lv_aload_n hx hb dX8_corner_23 rfl (lv_at hl 0 rfl) ?_
      refine tk_get (k := 132) (v := .int (σ2.1 132 1)) hx hb hts hown w rfl rfl inlX8 1 (by decide) mw_134 rfl dX8_corner_24 ?_
      refine lv_iload_n hx hb dX8_corner_27 rfl (lv_at hl 1 rfl) ?_
      obtain ⟨hi6, h⟩ := h
      refine tk_iast (k := 133) hx hb w rfl hi6 dX8_corner_28 (fun H locs w => ?_)
      refine lv_aload_n hx hb dX8_corner_29 rfl (lv_at hl 0 rfl) ?_
      refine tk_get (k := 132) (v := .ref (ad 134)) hx hb hts hown w rfl rfl inlX8 4 (by decide) mw_102 rfl dX8_corner_30 ?_
      refine lv_aload_n hx hb dX8_corner_33 rfl (lv_at hl 0 rfl) ?_
      refine tk_get (k := 132) (v := .int ((tk_up σ2 133 (Int32.toNatClampNeg (σ2.1 132 1)) x1).1 132 1)) hx hb hts hown w rfl rfl inlX8 1 (by decide) mw_134 rfl dX8_corner_34 ?_
      refine lv_iload_n hx hb dX8_corner_37 rfl (lv_at hl 2 rfl) ?_
      obtain ⟨hi7, h⟩ := h
      refine tk_iast (k := 134) hx hb w rfl hi7 dX8_corner_38 (fun H locs w => ?_)
      generalize e_σ8 : tk_up (tk_up σ2 133 (Int32.toNatClampNeg (σ2.1 132 1)) x1) 134 (Int32.toNatClampNeg ((tk_up σ2 133 (Int32.toNatClampNeg (σ2.1 132 1)) x1).1 132 1)) x2 = σ8 at w
      have h := h σ8 e_σ8.symm
      refine lv_aload_n hx hb dX8_corner_39 rfl (lv_at hl 0 rfl) ?_
      refine lv_dup hx hb dX8_corner_40 rfl ?_
      refine tk_get (k := 132) (v := .int (σ8.1 132 1)) hx hb hts hown w rfl rfl inlX8 1 (by decide) mw_134 rfl dX8_corner_41 ?_
      refine lv_iconst (v := 1) hx hb dX8_corner_44 (by decide) ?_
      refine lv_iadd hx hb dX8_corner_45 ?_
      refine tk_puti (k := 132) (ty := .int) hx hb hts hown w rfl rfl inlX8 tyX8 tyX8_ok nmX8 1 (by decide) mw_134 rfl rfl (by decide +kernel) rfl rfl dX8_corner_46 (fun H locs w => ?_)
      refine lv_aload_n hx hb dX8_corner_49 rfl (lv_at hl 0 rfl) ?_
      refine tk_get (k := 132) (v := .int ((tk_up σ8 132 1 ((σ8.1 132 1) + 1)).1 132 1)) hx hb hts hown w rfl rfl inlX8 1 (by decide) mw_134 rfl dX8_corner_50 ?_
      exact tk_reti C w dX8_corner_53 h
    · have h := h.2 c5
      refine lv_iconst (v := (-1)) hx hb dX8_corner_17 (by decide) ?_
      exact tk_reti C w dX8_corner_18 h
theorem e_X8_corner (d : Nat) (x1 : Int32) (x2 : Int32) {σ : tk_S} {Q : Int32 → tk_S → Prop} (h : g_X8_corner d 0 [(0, aN 132), (1, aI x1), (2, aI x2)] σ Q) : p_X8_corner d [aN 132, aI x1, aI x2] σ Q := tk_entry (by decide) rfl (fun _ => Nat.le_of_ble_eq_true rfl) (fun _ => rfl) h
abbrev g_X8_comes (d pc : Nat) (vals : List (Nat × tk_V)) (σ : tk_S) (Q : Int32 → tk_S → Prop) : Prop := tk_G RX8 cX8_comes 6 (some .int) d pc vals σ (tk_i Q)
set_option maxHeartbeats 4000000 in
set_option maxRecDepth 100000 in
theorem b_X8_comes_43 (d : Nat) (x4 : Int32) (x5 : Int32) (σ : tk_S) (Q : Int32 → tk_S → Prop) (h : (12 ≤ x5 → Q x4 σ) ∧ (¬ 12 ≤ x5 → vp_in ((12 * x4) + x5) 144 ∧ (vp_in ((12 * x5) + x4) 144 ∧ (∀ σ4 : tk_S, σ4 = tk_up (tk_up σ 141 (Int32.toNatClampNeg ((12 * x4) + x5)) 0) 141 (Int32.toNatClampNeg ((12 * x5) + x4)) 0 → g_X8_comes d 43 [(0, aN 132), (4, aI x4), (5, aI (x5 + 1))] σ4 Q)))) : g_X8_comes d 43 [(0, aN 132), (4, aI x4), (5, aI x5)] σ Q := by
  intro p l e s m args below meth c D cy ad base H locs ls C w hl
  obtain ⟨hx, hb, hml, hown, hts, hr, hlk⟩ := id C
  have hl : lv_has ls 6 [(0, .ref (ad 132)), (4, .int x4), (5, .int x5)] := hl
  refine lv_iload hx hb dX8_comes_43 (lv_at hl 2 rfl) ?_
  refine lv_bipush (v := 12) hx hb dX8_comes_45 (by decide) ?_
  refine lv_icmp_ge (tgt := 84) hx hb dX8_comes_47 (by decide) (fun c1 => ?_) (fun c1 => ?_)
  · have h := h.1 c1
    refine lv_iload hx hb dX8_comes_84 (lv_at hl 1 rfl) ?_
    exact tk_reti C w dX8_comes_86 h
  · have h := h.2 c1
    refine lv_aload_n hx hb dX8_comes_50 rfl (lv_at hl 0 rfl) ?_
    refine tk_get (k := 132) (v := .ref (ad 141)) hx hb hts hown w rfl rfl inlX8 11 (by decide) mw_110 rfl dX8_comes_51 ?_
    refine lv_bipush (v := 12) hx hb dX8_comes_54 (by decide) ?_
    refine lv_iload hx hb dX8_comes_56 (lv_at hl 1 rfl) ?_
    refine lv_imul hx hb dX8_comes_58 ?_
    refine lv_iload hx hb dX8_comes_59 (lv_at hl 2 rfl) ?_
    refine lv_iadd hx hb dX8_comes_61 ?_
    refine lv_iconst (v := 0) hx hb dX8_comes_62 (by decide) ?_
    obtain ⟨hi2, h⟩ := h
    refine tk_zast (k := 141) hx hb w rfl hi2 rfl dX8_comes_63 (fun H locs w => ?_)
    refine lv_aload_n hx hb dX8_comes_64 rfl (lv_at hl 0 rfl) ?_
    refine tk_get (k := 132) (v := .ref (ad 141)) hx hb hts hown w rfl rfl inlX8 11 (by decide) mw_110 rfl dX8_comes_65 ?_
    refine lv_bipush (v := 12) hx hb dX8_comes_68 (by decide) ?_
    refine lv_iload hx hb dX8_comes_70 (lv_at hl 2 rfl) ?_
    refine lv_imul hx hb dX8_comes_72 ?_
    refine lv_iload hx hb dX8_comes_73 (lv_at hl 1 rfl) ?_
    refine lv_iadd hx hb dX8_comes_75 ?_
    refine lv_iconst (v := 0) hx hb dX8_comes_76 (by decide) ?_
    obtain ⟨hi3, h⟩ := h
    refine tk_zast (k := 141) hx hb w rfl hi3 rfl dX8_comes_77 (fun H locs w => ?_)
    generalize e_σ4 : tk_up (tk_up σ 141 (Int32.toNatClampNeg ((12 * x4) + x5)) 0) 141 (Int32.toNatClampNeg ((12 * x5) + x4)) 0 = σ4 at w
    have h := h σ4 e_σ4.symm
    refine lv_iinc (v := x5 + 1) (lv' := [(5, .int (x5 + 1)), (0, .ref (ad 132)), (4, .int x4)]) hx hb dX8_comes_78 hl (k := 2) rfl rfl (by decide) rfl (fun ls hl => ?_)
    refine lv_goto (tgt := 43) hx hb dX8_comes_81 (by decide) ?_
    exact h _ _ _ _ _ _ _ _ _ _ _ _ _ _ _ _ C w (lv_sub hl [1, 2, 0] rfl)
set_option maxHeartbeats 4000000 in
set_option maxRecDepth 100000 in
theorem b_X8_comes_0 (d : Nat) (x1 : Int32) (x2 : Int32) (x3 : Int32) (σ : tk_S) (Q : Int32 → tk_S → Prop) (h : ∀ z1 : Int32, z1 = σ.1 132 0 → (vp_in z1 12 ∧ (∀ σ3 : tk_S, σ3 = tk_up (tk_up σ 132 0 ((σ.1 132 0) + 1)) 135 (Int32.toNatClampNeg z1) x1 → vp_in z1 12 ∧ (vp_in z1 12 ∧ (∀ σ6 : tk_S, σ6 = tk_up (tk_up σ3 136 (Int32.toNatClampNeg z1) x2) 137 (Int32.toNatClampNeg z1) x3 → g_X8_comes d 43 [(0, aN 132), (4, aI z1), (5, aI 0)] σ6 Q))))) : g_X8_comes d 0 [(0, aN 132), (1, aI x1), (2, aI x2), (3, aI x3)] σ Q := by
  intro p l e s m args below meth c D cy ad base H locs ls C w hl
  obtain ⟨hx, hb, hml, hown, hts, hr, hlk⟩ := id C
  have hl : lv_has ls 6 [(0, .ref (ad 132)), (1, .int x1), (2, .int x2), (3, .int x3)] := hl
  refine lv_aload_n hx hb dX8_comes_0 rfl (lv_at hl 0 rfl) ?_
  refine tk_get (k := 132) (v := .int (σ.1 132 0)) hx hb hts hown w rfl rfl inlX8 0 (by decide) mw_244 rfl dX8_comes_1 ?_
  refine lv_topi (fun z1 e_z1 => ?_)
  have h := h z1 e_z1
  refine lv_istore (lv' := [(4, .int z1), (0, .ref (ad 132)), (1, .int x1), (2, .int x2), (3, .int x3)]) hx hb dX8_comes_4 hl (by decide) rfl (fun ls hl => ?_)
  refine lv_aload_n hx hb dX8_comes_6 rfl (lv_at hl 1 rfl) ?_
  refine lv_dup hx hb dX8_comes_7 rfl ?_
  refine tk_get (k := 132) (v := .int (σ.1 132 0)) hx hb hts hown w rfl rfl inlX8 0 (by decide) mw_244 rfl dX8_comes_8 ?_
  refine lv_iconst (v := 1) hx hb dX8_comes_11 (by decide) ?_
  refine lv_iadd hx hb dX8_comes_12 ?_
  refine tk_puti (k := 132) (ty := .int) hx hb hts hown w rfl rfl inlX8 tyX8 tyX8_ok nmX8 0 (by decide) mw_244 rfl rfl (by decide +kernel) rfl rfl dX8_comes_13 (fun H locs w => ?_)
  refine lv_aload_n hx hb dX8_comes_16 rfl (lv_at hl 1 rfl) ?_
  refine tk_get (k := 132) (v := .ref (ad 135)) hx hb hts hown w rfl rfl inlX8 5 (by decide) mw_103 rfl dX8_comes_17 ?_
  refine lv_iload hx hb dX8_comes_20 (lv_at hl 0 rfl) ?_
  refine lv_iload_n hx hb dX8_comes_22 rfl (lv_at hl 2 rfl) ?_
  obtain ⟨hi2, h⟩ := h
  refine tk_iast (k := 135) hx hb w rfl hi2 dX8_comes_23 (fun H locs w => ?_)
  generalize e_σ3 : tk_up (tk_up σ 132 0 ((σ.1 132 0) + 1)) 135 (Int32.toNatClampNeg z1) x1 = σ3 at w
  have h := h σ3 e_σ3.symm
  refine lv_aload_n hx hb dX8_comes_24 rfl (lv_at hl 1 rfl) ?_
  refine tk_get (k := 132) (v := .ref (ad 136)) hx hb hts hown w rfl rfl inlX8 6 (by decide) mw_104 rfl dX8_comes_25 ?_
  refine lv_iload hx hb dX8_comes_28 (lv_at hl 0 rfl) ?_
  refine lv_iload_n hx hb dX8_comes_30 rfl (lv_at hl 3 rfl) ?_
  obtain ⟨hi4, h⟩ := h
  refine tk_iast (k := 136) hx hb w rfl hi4 dX8_comes_31 (fun H locs w => ?_)
  refine lv_aload_n hx hb dX8_comes_32 rfl (lv_at hl 1 rfl) ?_
  refine tk_get (k := 132) (v := .ref (ad 137)) hx hb hts hown w rfl rfl inlX8 7 (by decide) mw_105 rfl dX8_comes_33 ?_
  refine lv_iload hx hb dX8_comes_36 (lv_at hl 0 rfl) ?_
  refine lv_iload_n hx hb dX8_comes_38 rfl (lv_at hl 4 rfl) ?_
  obtain ⟨hi5, h⟩ := h
  refine tk_iast (k := 137) hx hb w rfl hi5 dX8_comes_39 (fun H locs w => ?_)
  generalize e_σ6 : tk_up (tk_up σ3 136 (Int32.toNatClampNeg z1) x2) 137 (Int32.toNatClampNeg z1) x3 = σ6 at w
  have h := h σ6 e_σ6.symm
  refine lv_iconst (v := 0) hx hb dX8_comes_40 (by decide) ?_
  refine lv_istore (lv' := [(5, .int 0), (4, .int z1), (0, .ref (ad 132)), (1, .int x1), (2, .int x2), (3, .int x3)]) hx hb dX8_comes_41 hl (by decide) rfl (fun ls hl => ?_)
  exact h _ _ _ _ _ _ _ _ _ _ _ _ _ _ _ _ C w (lv_sub hl [2, 1, 0] rfl)
theorem e_X8_comes (d : Nat) (x1 : Int32) (x2 : Int32) (x3 : Int32) {σ : tk_S} {Q : Int32 → tk_S → Prop} (h : g_X8_comes d 0 [(0, aN 132), (1, aI x1), (2, aI x2), (3, aI x3)] σ Q) : p_X8_comes d [aN 132, aI x1, aI x2, aI x3] σ Q := tk_entry (by decide) rfl (fun _ => Nat.le_of_ble_eq_true rfl) (fun _ => rfl) h
abbrev g_X8_canCome (d pc : Nat) (vals : List (Nat × tk_V)) (σ : tk_S) (Q : Int32 → tk_S → Prop) : Prop := tk_G RX8 cX8_canCome 2 (some .boolean) d pc vals σ (tk_i Q)
set_option maxHeartbeats 4000000 in
set_option maxRecDepth 100000 in
theorem b_X8_canCome_0 (d : Nat) (x1 : Int32) (σ : tk_S) (Q : Int32 → tk_S → Prop) (h : p_X8_isIn d [aI x1, aI 1, aI 9] σ (fun y3 σ2 => (y3 = 0 → Q 0 σ2) ∧ (¬ y3 = 0 → (12 ≤ (σ2.1 132 0) → Q 0 σ2) ∧ (¬ 12 ≤ (σ2.1 132 0) → Q 1 σ2)))) : g_X8_canCome (d + 1) 0 [(0, aN 132), (1, aI x1)] σ Q := by
  intro p l e s m args below meth c D cy ad base H locs ls C w hl
  obtain ⟨hx, hb, hml, hown, hts, hr, hlk⟩ := id C
  have hl : lv_has ls 2 [(0, .ref (ad 132)), (1, .int x1)] := hl
  refine lv_iload_n hx hb dX8_canCome_0 rfl (lv_at hl 1 rfl) ?_
  refine lv_iconst (v := 1) hx hb dX8_canCome_1 (by decide) ?_
  refine lv_bipush (v := 9) hx hb dX8_canCome_2 (by decide) ?_
  refine tk_cS C w (as := [aI x1, aI 1, aI 9]) (rest := []) mw_140 mw_5 mw_138 mw_139 hd_X8_isIn (by decide) hl.1 (Nat.le_of_ble_eq_true rfl) rfl dX8_canCome_4 h (fun r1 σ2 H locs hq w => ?_)
  obtain ⟨y3, rfl, h⟩ := hq
  refine W.eq (g2 := F0 m 7 ls [.int y3]) rfl ?_
  refine lv_if_eq (tgt := 23) hx hb dX8_canCome_7 (by decide) (fun c4 => ?_) (fun c4 => ?_)
  · have h := h.1 c4
    refine lv_iconst (v := 0) hx hb dX8_canCome_23 (by decide) ?_
    exact tk_retz C w dX8_canCome_24 rfl h
  · have h := h.2 c4
    refine lv_aload_n hx hb dX8_canCome_10 rfl (lv_at hl 0 rfl) ?_
    refine tk_get (k := 132) (v := .int (σ2.1 132 0)) hx hb hts hown w rfl rfl inlX8 0 (by decide) mw_244 rfl dX8_canCome_11 ?_
    refine lv_bipush (v := 12) hx hb dX8_canCome_14 (by decide) ?_
    refine lv_icmp_ge (tgt := 23) hx hb dX8_canCome_16 (by decide) (fun c5 => ?_) (fun c5 => ?_)
    · have h := h.1 c5
      refine lv_iconst (v := 0) hx hb dX8_canCome_23 (by decide) ?_
      exact tk_retz C w dX8_canCome_24 rfl h
    · have h := h.2 c5
      refine lv_iconst (v := 1) hx hb dX8_canCome_19 (by decide) ?_
      refine lv_goto (tgt := 24) hx hb dX8_canCome_20 (by decide) ?_
      exact tk_retz C w dX8_canCome_24 rfl h
theorem e_X8_canCome (d : Nat) (x1 : Int32) {σ : tk_S} {Q : Int32 → tk_S → Prop} (h : g_X8_canCome d 0 [(0, aN 132), (1, aI x1)] σ Q) : p_X8_canCome d [aN 132, aI x1] σ Q := tk_entry (by decide) rfl (fun _ => Nat.le_of_ble_eq_true rfl) (fun _ => rfl) h
abbrev g_X8_line (d pc : Nat) (vals : List (Nat × tk_V)) (σ : tk_S) (Q : Int32 → tk_S → Prop) : Prop := tk_G RX8 cX8_line 4 (some .int) d pc vals σ (tk_i Q)
set_option maxHeartbeats 4000000 in
set_option maxRecDepth 100000 in
theorem b_X8_line_30 (d : Nat) (x2 : Int32) (x3 : Int32) (σ : tk_S) (Q : Int32 → tk_S → Prop) (h : ((σ.1 132 1) ≤ x3 → p_X8_draws d [aN 132, aI x2] (tk_up σ 132 1 0) (fun σ3 => Q x2 σ3)) ∧ (¬ (σ.1 132 1) ≤ x3 → vp_in x3 8 ∧ (vp_in ((8 * x2) + x3) 96 ∧ (vp_in x3 8 ∧ (vp_in ((8 * x2) + x3) 96 ∧ (∀ σ8 : tk_S, σ8 = tk_up (tk_up σ 138 (Int32.toNatClampNeg ((8 * x2) + x3)) (σ.1 133 (Int32.toNatClampNeg x3))) 139 (Int32.toNatClampNeg ((8 * x2) + x3)) ((tk_up σ 138 (Int32.toNatClampNeg ((8 * x2) + x3)) (σ.1 133 (Int32.toNatClampNeg x3))).1 134 (Int32.toNatClampNeg x3)) → g_X8_line (d + 1) 30 [(0, aN 132), (2, aI x2), (3, aI (x3 + 1))] σ8 Q)))))) : g_X8_line (d + 1) 30 [(0, aN 132), (2, aI x2), (3, aI x3)] σ Q := by
  intro p l e s m args below meth c D cy ad base H locs ls C w hl
  obtain ⟨hx, hb, hml, hown, hts, hr, hlk⟩ := id C
  have hl : lv_has ls 4 [(0, .ref (ad 132)), (2, .int x2), (3, .int x3)] := hl
  refine lv_iload_n hx hb dX8_line_30 rfl (lv_at hl 2 rfl) ?_
  refine lv_aload_n hx hb dX8_line_31 rfl (lv_at hl 0 rfl) ?_
  refine tk_get (k := 132) (v := .int (σ.1 132 1)) hx hb hts hown w rfl rfl inlX8 1 (by decide) mw_134 rfl dX8_line_32 ?_
  refine lv_icmp_ge (tgt := 78) hx hb dX8_line_35 (by decide) (fun c1 => ?_) (fun c1 => ?_)
  · have h := h.1 c1
    refine lv_aload_n hx hb dX8_line_78 rfl (lv_at hl 0 rfl) ?_
    refine lv_iconst (v := 0) hx hb dX8_line_79 (by decide) ?_
    refine tk_puti (k := 132) (ty := .int) hx hb hts hown w rfl rfl inlX8 tyX8 tyX8_ok nmX8 1 (by decide) mw_134 rfl rfl (by decide +kernel) rfl rfl dX8_line_80 (fun H locs w => ?_)
    refine lv_aload_n hx hb dX8_line_83 rfl (lv_at hl 0 rfl) ?_
    refine lv_iload_n hx hb dX8_line_84 rfl (lv_at hl 1 rfl) ?_
    refine tk_cV C w (k := 132) rfl rfl (as := [aI x2]) (rest := []) mw_252 mw_5 mw_249 mw_250 mw_251 hd_X8_draws (by decide) hl.1 (Nat.le_of_ble_eq_true rfl) rfl dX8_line_85 h (fun r2 σ3 H locs hq w => ?_)
    obtain ⟨rfl, h⟩ := hq
    refine W.eq (g2 := F0 m 88 ls []) rfl ?_
    refine lv_iload_n hx hb dX8_line_88 rfl (lv_at hl 1 rfl) ?_
    exact tk_reti C w dX8_line_89 h
  · have h := h.2 c1
    refine lv_aload_n hx hb dX8_line_38 rfl (lv_at hl 0 rfl) ?_
    refine tk_get (k := 132) (v := .ref (ad 138)) hx hb hts hown w rfl rfl inlX8 8 (by decide) mw_106 rfl dX8_line_39 ?_
    refine lv_bipush (v := 8) hx hb dX8_line_42 (by decide) ?_
    refine lv_iload_n hx hb dX8_line_44 rfl (lv_at hl 1 rfl) ?_
    refine lv_imul hx hb dX8_line_45 ?_
    refine lv_iload_n hx hb dX8_line_46 rfl (lv_at hl 2 rfl) ?_
    refine lv_iadd hx hb dX8_line_47 ?_
    refine lv_aload_n hx hb dX8_line_48 rfl (lv_at hl 0 rfl) ?_
    refine tk_get (k := 132) (v := .ref (ad 133)) hx hb hts hown w rfl rfl inlX8 3 (by decide) mw_101 rfl dX8_line_49 ?_
    refine lv_iload_n hx hb dX8_line_52 rfl (lv_at hl 2 rfl) ?_
    obtain ⟨hi4, h⟩ := h
    refine tk_iald (k := 133) hx hb w rfl hi4 dX8_line_53 ?_
    obtain ⟨hi5, h⟩ := h
    refine tk_iast (k := 138) hx hb w rfl hi5 dX8_line_54 (fun H locs w => ?_)
    refine lv_aload_n hx hb dX8_line_55 rfl (lv_at hl 0 rfl) ?_
    refine tk_get (k := 132) (v := .ref (ad 139)) hx hb hts hown w rfl rfl inlX8 9 (by decide) mw_107 rfl dX8_line_56 ?_
    refine lv_bipush (v := 8) hx hb dX8_line_59 (by decide) ?_
    refine lv_iload_n hx hb dX8_line_61 rfl (lv_at hl 1 rfl) ?_
    refine lv_imul hx hb dX8_line_62 ?_
    refine lv_iload_n hx hb dX8_line_63 rfl (lv_at hl 2 rfl) ?_
    refine lv_iadd hx hb dX8_line_64 ?_
    refine lv_aload_n hx hb dX8_line_65 rfl (lv_at hl 0 rfl) ?_
    refine tk_get (k := 132) (v := .ref (ad 134)) hx hb hts hown w rfl rfl inlX8 4 (by decide) mw_102 rfl dX8_line_66 ?_
    refine lv_iload_n hx hb dX8_line_69 rfl (lv_at hl 2 rfl) ?_
    obtain ⟨hi6, h⟩ := h
    refine tk_iald (k := 134) hx hb w rfl hi6 dX8_line_70 ?_
    obtain ⟨hi7, h⟩ := h
    refine tk_iast (k := 139) hx hb w rfl hi7 dX8_line_71 (fun H locs w => ?_)
    generalize e_σ8 : tk_up (tk_up σ 138 (Int32.toNatClampNeg ((8 * x2) + x3)) (σ.1 133 (Int32.toNatClampNeg x3))) 139 (Int32.toNatClampNeg ((8 * x2) + x3)) ((tk_up σ 138 (Int32.toNatClampNeg ((8 * x2) + x3)) (σ.1 133 (Int32.toNatClampNeg x3))).1 134 (Int32.toNatClampNeg x3)) = σ8 at w
    have h := h σ8 e_σ8.symm
    refine lv_iinc (v := x3 + 1) (lv' := [(3, .int (x3 + 1)), (0, .ref (ad 132)), (2, .int x2)]) hx hb dX8_line_72 hl (k := 2) rfl rfl (by decide) rfl (fun ls hl => ?_)
    refine lv_goto (tgt := 30) hx hb dX8_line_75 (by decide) ?_
    exact h _ _ _ _ _ _ _ _ _ _ _ _ _ _ _ _ C w (lv_sub hl [1, 2, 0] rfl)
set_option maxHeartbeats 4000000 in
set_option maxRecDepth 100000 in
theorem b_X8_line_0 (d : Nat) (x1 : Int32) (σ : tk_S) (Q : Int32 → tk_S → Prop) (h : ((σ.1 132 1) = 0 → Q (-1) σ) ∧ (¬ (σ.1 132 1) = 0 → p_X8_canCome d [aN 132, aI x1] σ (fun y4 σ3 => (¬ y4 = 0 → p_X8_comes d [aN 132, aI 0, aI x1, aI (σ3.1 132 1)] σ3 (fun y8 σ7 => g_X8_line (d + 1) 30 [(0, aN 132), (2, aI y8), (3, aI 0)] σ7 Q)) ∧ (y4 = 0 → Q (-1) σ3)))) : g_X8_line (d + 1) 0 [(0, aN 132), (1, aI x1)] σ Q := by
  intro p l e s m args below meth c D cy ad base H locs ls C w hl
  obtain ⟨hx, hb, hml, hown, hts, hr, hlk⟩ := id C
  have hl : lv_has ls 4 [(0, .ref (ad 132)), (1, .int x1)] := hl
  refine lv_aload_n hx hb dX8_line_0 rfl (lv_at hl 0 rfl) ?_
  refine tk_get (k := 132) (v := .int (σ.1 132 1)) hx hb hts hown w rfl rfl inlX8 1 (by decide) mw_134 rfl dX8_line_1 ?_
  refine lv_if_eq (tgt := 15) hx hb dX8_line_4 (by decide) (fun c1 => ?_) (fun c1 => ?_)
  · have h := h.1 c1
    refine lv_iconst (v := (-1)) hx hb dX8_line_15 (by decide) ?_
    exact tk_reti C w dX8_line_16 h
  · have h := h.2 c1
    refine lv_aload_n hx hb dX8_line_7 rfl (lv_at hl 0 rfl) ?_
    refine lv_iload_n hx hb dX8_line_8 rfl (lv_at hl 1 rfl) ?_
    refine tk_cV C w (k := 132) rfl rfl (as := [aI x1]) (rest := []) mw_243 mw_5 mw_240 mw_241 mw_242 hd_X8_canCome (by decide) hl.1 (Nat.le_of_ble_eq_true rfl) rfl dX8_line_9 h (fun r2 σ3 H locs hq w => ?_)
    obtain ⟨y4, rfl, h⟩ := hq
    refine W.eq (g2 := F0 m 12 ls [.int y4]) rfl ?_
    refine lv_if_ne (tgt := 17) hx hb dX8_line_12 (by decide) (fun c5 => ?_) (fun c5 => ?_)
    · have h := h.1 c5
      refine lv_aload_n hx hb dX8_line_17 rfl (lv_at hl 0 rfl) ?_
      refine lv_iconst (v := 0) hx hb dX8_line_18 (by decide) ?_
      refine lv_iload_n hx hb dX8_line_19 rfl (lv_at hl 1 rfl) ?_
      refine lv_aload_n hx hb dX8_line_20 rfl (lv_at hl 0 rfl) ?_
      refine tk_get (k := 132) (v := .int (σ3.1 132 1)) hx hb hts hown w rfl rfl inlX8 1 (by decide) mw_134 rfl dX8_line_21 ?_
      refine tk_cV C w (k := 132) rfl rfl (as := [aI 0, aI x1, aI (σ3.1 132 1)]) (rest := []) mw_248 mw_5 mw_245 mw_246 mw_247 hd_X8_comes (by decide) hl.1 (Nat.le_of_ble_eq_true rfl) rfl dX8_line_24 h (fun r6 σ7 H locs hq w => ?_)
      obtain ⟨y8, rfl, h⟩ := hq
      refine W.eq (g2 := F0 m 27 ls [.int y8]) rfl ?_
      refine lv_istore_n (lv' := [(2, .int y8), (0, .ref (ad 132)), (1, .int x1)]) hx hb dX8_line_27 rfl hl (by decide) rfl (fun ls hl => ?_)
      refine lv_iconst (v := 0) hx hb dX8_line_28 (by decide) ?_
      refine lv_istore_n (lv' := [(3, .int 0), (2, .int y8), (0, .ref (ad 132)), (1, .int x1)]) hx hb dX8_line_29 rfl hl (by decide) rfl (fun ls hl => ?_)
      exact h _ _ _ _ _ _ _ _ _ _ _ _ _ _ _ _ C w (lv_sub hl [2, 1, 0] rfl)
    · have h := h.2 c5
      refine lv_iconst (v := (-1)) hx hb dX8_line_15 (by decide) ?_
      exact tk_reti C w dX8_line_16 h
theorem e_X8_line (d : Nat) (x1 : Int32) {σ : tk_S} {Q : Int32 → tk_S → Prop} (h : g_X8_line d 0 [(0, aN 132), (1, aI x1)] σ Q) : p_X8_line d [aN 132, aI x1] σ Q := tk_entry (by decide) rfl (fun _ => Nat.le_of_ble_eq_true rfl) (fun _ => rfl) h
abbrev g_X8_ground (d pc : Nat) (vals : List (Nat × tk_V)) (σ : tk_S) (Q : Int32 → tk_S → Prop) : Prop := tk_G RX8 cX8_ground 7 (some .int) d pc vals σ (tk_i Q)
set_option maxHeartbeats 4000000 in
set_option maxRecDepth 100000 in
theorem b_X8_ground_0 (d : Nat) (x1 : Int32) (x2 : Int32) (x3 : Int32) (x4 : Int32) (x5 : Int32) (σ : tk_S) (Q : Int32 → tk_S → Prop) (h : p_X8_isPin d [aI x1, aI x2] σ (fun y3 σ2 => (y3 = 0 → Q (-1) σ2) ∧ (¬ y3 = 0 → p_X8_isPin d [aI x3, aI x4] σ2 (fun y7 σ6 => (y7 = 0 → Q (-1) σ6) ∧ (¬ y7 = 0 → (x3 < x1 → Q (-1) σ6) ∧ (¬ x3 < x1 → (x4 < x2 → Q (-1) σ6) ∧ (¬ x4 < x2 → p_X8_canCome d [aN 132, aI x5] σ6 (fun y13 σ12 => (¬ y13 = 0 → p_X8_comes d [aN 132, aI 1, aI x5, aI 2] σ12 (fun y17 σ16 => vp_in (8 * y17) 96 ∧ (vp_in (8 * y17) 96 ∧ (∀ σ20 : tk_S, σ20 = tk_up (tk_up σ16 138 (Int32.toNatClampNeg (8 * y17)) x1) 139 (Int32.toNatClampNeg (8 * y17)) x2 → vp_in ((8 * y17) + 1) 96 ∧ (vp_in ((8 * y17) + 1) 96 ∧ (∀ σ23 : tk_S, σ23 = tk_up (tk_up σ20 138 (Int32.toNatClampNeg ((8 * y17) + 1)) x3) 139 (Int32.toNatClampNeg ((8 * y17) + 1)) x4 → p_X8_draws d [aN 132, aI y17] σ23 (fun σ25 => Q y17 σ25))))))) ∧ (y13 = 0 → Q (-1) σ12))))))))) : g_X8_ground (d + 1) 0 [(0, aN 132), (1, aI x1), (2, aI x2), (3, aI x3), (4, aI x4), (5, aI x5)] σ Q := by
  intro p l e s m args below meth c D cy ad base H locs ls C w hl
  obtain ⟨hx, hb, hml, hown, hts, hr, hlk⟩ := id C
  have hl : lv_has ls 7 [(0, .ref (ad 132)), (1, .int x1), (2, .int x2), (3, .int x3), (4, .int x4), (5, .int x5)] := hl
  refine lv_iload_n hx hb dX8_ground_0 rfl (lv_at hl 1 rfl) ?_
  refine lv_iload_n hx hb dX8_ground_1 rfl (lv_at hl 2 rfl) ?_
  refine tk_cS C w (as := [aI x1, aI x2]) (rest := []) mw_137 mw_5 mw_135 mw_136 hd_X8_isPin (by decide) hl.1 (Nat.le_of_ble_eq_true rfl) rfl dX8_ground_2 h (fun r1 σ2 H locs hq w => ?_)
  obtain ⟨y3, rfl, h⟩ := hq
  refine W.eq (g2 := F0 m 5 ls [.int y3]) rfl ?_
  refine lv_if_eq (tgt := 37) hx hb dX8_ground_5 (by decide) (fun c4 => ?_) (fun c4 => ?_)
  · have h := h.1 c4
    refine lv_iconst (v := (-1)) hx hb dX8_ground_37 (by decide) ?_
    exact tk_reti C w dX8_ground_38 h
  · have h := h.2 c4
    refine lv_iload_n hx hb dX8_ground_8 rfl (lv_at hl 3 rfl) ?_
    refine lv_iload hx hb dX8_ground_9 (lv_at hl 4 rfl) ?_
    refine tk_cS C w (as := [aI x3, aI x4]) (rest := []) mw_137 mw_5 mw_135 mw_136 hd_X8_isPin (by decide) hl.1 (Nat.le_of_ble_eq_true rfl) rfl dX8_ground_11 h (fun r5 σ6 H locs hq w => ?_)
    obtain ⟨y7, rfl, h⟩ := hq
    refine W.eq (g2 := F0 m 14 ls [.int y7]) rfl ?_
    refine lv_if_eq (tgt := 37) hx hb dX8_ground_14 (by decide) (fun c8 => ?_) (fun c8 => ?_)
    · have h := h.1 c8
      refine lv_iconst (v := (-1)) hx hb dX8_ground_37 (by decide) ?_
      exact tk_reti C w dX8_ground_38 h
    · have h := h.2 c8
      refine lv_iload_n hx hb dX8_ground_17 rfl (lv_at hl 1 rfl) ?_
      refine lv_iload_n hx hb dX8_ground_18 rfl (lv_at hl 3 rfl) ?_
      refine lv_icmp_gt (tgt := 37) hx hb dX8_ground_19 (by decide) (fun c9 => ?_) (fun c9 => ?_)
      · have h := h.1 c9
        refine lv_iconst (v := (-1)) hx hb dX8_ground_37 (by decide) ?_
        exact tk_reti C w dX8_ground_38 h
      · have h := h.2 c9
        refine lv_iload_n hx hb dX8_ground_22 rfl (lv_at hl 2 rfl) ?_
        refine lv_iload hx hb dX8_ground_23 (lv_at hl 4 rfl) ?_
        refine lv_icmp_gt (tgt := 37) hx hb dX8_ground_25 (by decide) (fun c10 => ?_) (fun c10 => ?_)
        · have h := h.1 c10
          refine lv_iconst (v := (-1)) hx hb dX8_ground_37 (by decide) ?_
          exact tk_reti C w dX8_ground_38 h
        · have h := h.2 c10
          refine lv_aload_n hx hb dX8_ground_28 rfl (lv_at hl 0 rfl) ?_
          refine lv_iload hx hb dX8_ground_29 (lv_at hl 5 rfl) ?_
          refine tk_cV C w (k := 132) rfl rfl (as := [aI x5]) (rest := []) mw_243 mw_5 mw_240 mw_241 mw_242 hd_X8_canCome (by decide) hl.1 (Nat.le_of_ble_eq_true rfl) rfl dX8_ground_31 h (fun r11 σ12 H locs hq w => ?_)
          obtain ⟨y13, rfl, h⟩ := hq
          refine W.eq (g2 := F0 m 34 ls [.int y13]) rfl ?_
          refine lv_if_ne (tgt := 39) hx hb dX8_ground_34 (by decide) (fun c14 => ?_) (fun c14 => ?_)
          · have h := h.1 c14
            refine lv_aload_n hx hb dX8_ground_39 rfl (lv_at hl 0 rfl) ?_
            refine lv_iconst (v := 1) hx hb dX8_ground_40 (by decide) ?_
            refine lv_iload hx hb dX8_ground_41 (lv_at hl 5 rfl) ?_
            refine lv_iconst (v := 2) hx hb dX8_ground_43 (by decide) ?_
            refine tk_cV C w (k := 132) rfl rfl (as := [aI 1, aI x5, aI 2]) (rest := []) mw_248 mw_5 mw_245 mw_246 mw_247 hd_X8_comes (by decide) hl.1 (Nat.le_of_ble_eq_true rfl) rfl dX8_ground_44 h (fun r15 σ16 H locs hq w => ?_)
            obtain ⟨y17, rfl, h⟩ := hq
            refine W.eq (g2 := F0 m 47 ls [.int y17]) rfl ?_
            refine lv_istore (lv' := [(6, .int y17), (0, .ref (ad 132)), (1, .int x1), (2, .int x2), (3, .int x3), (4, .int x4), (5, .int x5)]) hx hb dX8_ground_47 hl (by decide) rfl (fun ls hl => ?_)
            refine lv_aload_n hx hb dX8_ground_49 rfl (lv_at hl 1 rfl) ?_
            refine tk_get (k := 132) (v := .ref (ad 138)) hx hb hts hown w rfl rfl inlX8 8 (by decide) mw_106 rfl dX8_ground_50 ?_
            refine lv_bipush (v := 8) hx hb dX8_ground_53 (by decide) ?_
            refine lv_iload hx hb dX8_ground_55 (lv_at hl 0 rfl) ?_
            refine lv_imul hx hb dX8_ground_57 ?_
            refine lv_iload_n hx hb dX8_ground_58 rfl (lv_at hl 2 rfl) ?_
            obtain ⟨hi18, h⟩ := h
            refine tk_iast (k := 138) hx hb w rfl hi18 dX8_ground_59 (fun H locs w => ?_)
            refine lv_aload_n hx hb dX8_ground_60 rfl (lv_at hl 1 rfl) ?_
            refine tk_get (k := 132) (v := .ref (ad 139)) hx hb hts hown w rfl rfl inlX8 9 (by decide) mw_107 rfl dX8_ground_61 ?_
            refine lv_bipush (v := 8) hx hb dX8_ground_64 (by decide) ?_
            refine lv_iload hx hb dX8_ground_66 (lv_at hl 0 rfl) ?_
            refine lv_imul hx hb dX8_ground_68 ?_
            refine lv_iload_n hx hb dX8_ground_69 rfl (lv_at hl 3 rfl) ?_
            obtain ⟨hi19, h⟩ := h
            refine tk_iast (k := 139) hx hb w rfl hi19 dX8_ground_70 (fun H locs w => ?_)
            generalize e_σ20 : tk_up (tk_up σ16 138 (Int32.toNatClampNeg (8 * y17)) x1) 139 (Int32.toNatClampNeg (8 * y17)) x2 = σ20 at w
            have h := h σ20 e_σ20.symm
            refine lv_aload_n hx hb dX8_ground_71 rfl (lv_at hl 1 rfl) ?_
            refine tk_get (k := 132) (v := .ref (ad 138)) hx hb hts hown w rfl rfl inlX8 8 (by decide) mw_106 rfl dX8_ground_72 ?_
            refine lv_bipush (v := 8) hx hb dX8_ground_75 (by decide) ?_
            refine lv_iload hx hb dX8_ground_77 (lv_at hl 0 rfl) ?_
            refine lv_imul hx hb dX8_ground_79 ?_
            refine lv_iconst (v := 1) hx hb dX8_ground_80 (by decide) ?_
            refine lv_iadd hx hb dX8_ground_81 ?_
            refine lv_iload_n hx hb dX8_ground_82 rfl (lv_at hl 4 rfl) ?_
            obtain ⟨hi21, h⟩ := h
            refine tk_iast (k := 138) hx hb w rfl hi21 dX8_ground_83 (fun H locs w => ?_)
            refine lv_aload_n hx hb dX8_ground_84 rfl (lv_at hl 1 rfl) ?_
            refine tk_get (k := 132) (v := .ref (ad 139)) hx hb hts hown w rfl rfl inlX8 9 (by decide) mw_107 rfl dX8_ground_85 ?_
            refine lv_bipush (v := 8) hx hb dX8_ground_88 (by decide) ?_
            refine lv_iload hx hb dX8_ground_90 (lv_at hl 0 rfl) ?_
            refine lv_imul hx hb dX8_ground_92 ?_
            refine lv_iconst (v := 1) hx hb dX8_ground_93 (by decide) ?_
            refine lv_iadd hx hb dX8_ground_94 ?_
            refine lv_iload hx hb dX8_ground_95 (lv_at hl 5 rfl) ?_
            obtain ⟨hi22, h⟩ := h
            refine tk_iast (k := 139) hx hb w rfl hi22 dX8_ground_97 (fun H locs w => ?_)
            generalize e_σ23 : tk_up (tk_up σ20 138 (Int32.toNatClampNeg ((8 * y17) + 1)) x3) 139 (Int32.toNatClampNeg ((8 * y17) + 1)) x4 = σ23 at w
            have h := h σ23 e_σ23.symm
            refine lv_aload_n hx hb dX8_ground_98 rfl (lv_at hl 1 rfl) ?_
            refine lv_iload hx hb dX8_ground_99 (lv_at hl 0 rfl) ?_
            refine tk_cV C w (k := 132) rfl rfl (as := [aI y17]) (rest := []) mw_252 mw_5 mw_249 mw_250 mw_251 hd_X8_draws (by decide) hl.1 (Nat.le_of_ble_eq_true rfl) rfl dX8_ground_101 h (fun r24 σ25 H locs hq w => ?_)
            obtain ⟨rfl, h⟩ := hq
            refine W.eq (g2 := F0 m 104 ls []) rfl ?_
            refine lv_iload hx hb dX8_ground_104 (lv_at hl 0 rfl) ?_
            exact tk_reti C w dX8_ground_106 h
          · have h := h.2 c14
            refine lv_iconst (v := (-1)) hx hb dX8_ground_37 (by decide) ?_
            exact tk_reti C w dX8_ground_38 h
theorem e_X8_ground (d : Nat) (x1 : Int32) (x2 : Int32) (x3 : Int32) (x4 : Int32) (x5 : Int32) {σ : tk_S} {Q : Int32 → tk_S → Prop} (h : g_X8_ground d 0 [(0, aN 132), (1, aI x1), (2, aI x2), (3, aI x3), (4, aI x4), (5, aI x5)] σ Q) : p_X8_ground d [aN 132, aI x1, aI x2, aI x3, aI x4, aI x5] σ Q := tk_entry (by decide) rfl (fun _ => Nat.le_of_ble_eq_true rfl) (fun _ => rfl) h
abbrev g_X8_mark (d pc : Nat) (vals : List (Nat × tk_V)) (σ : tk_S) (Q : Int32 → tk_S → Prop) : Prop := tk_G RX8 cX8_mark 5 (some .int) d pc vals σ (tk_i Q)
set_option maxHeartbeats 4000000 in
set_option maxRecDepth 100000 in
theorem b_X8_mark_0 (d : Nat) (x1 : Int32) (x2 : Int32) (x3 : Int32) (σ : tk_S) (Q : Int32 → tk_S → Prop) (h : p_X8_isPin d [aI x1, aI x2] σ (fun y3 σ2 => (y3 = 0 → Q (-1) σ2) ∧ (¬ y3 = 0 → p_X8_canCome d [aN 132, aI x3] σ2 (fun y7 σ6 => (¬ y7 = 0 → p_X8_comes d [aN 132, aI 2, aI x3, aI 1] σ6 (fun y11 σ10 => vp_in (8 * y11) 96 ∧ (vp_in (8 * y11) 96 ∧ (∀ σ14 : tk_S, σ14 = tk_up (tk_up σ10 138 (Int32.toNatClampNeg (8 * y11)) x1) 139 (Int32.toNatClampNeg (8 * y11)) x2 → p_X8_draws d [aN 132, aI y11] σ14 (fun σ16 => Q y11 σ16))))) ∧ (y7 = 0 → Q (-1) σ6))))) : g_X8_mark (d + 1) 0 [(0, aN 132), (1, aI x1), (2, aI x2), (3, aI x3)] σ Q := by
  intro p l e s m args below meth c D cy ad base H locs ls C w hl
  obtain ⟨hx, hb, hml, hown, hts, hr, hlk⟩ := id C
  have hl : lv_has ls 5 [(0, .ref (ad 132)), (1, .int x1), (2, .int x2), (3, .int x3)] := hl
  refine lv_iload_n hx hb dX8_mark_0 rfl (lv_at hl 1 rfl) ?_
  refine lv_iload_n hx hb dX8_mark_1 rfl (lv_at hl 2 rfl) ?_
  refine tk_cS C w (as := [aI x1, aI x2]) (rest := []) mw_137 mw_5 mw_135 mw_136 hd_X8_isPin (by decide) hl.1 (Nat.le_of_ble_eq_true rfl) rfl dX8_mark_2 h (fun r1 σ2 H locs hq w => ?_)
  obtain ⟨y3, rfl, h⟩ := hq
  refine W.eq (g2 := F0 m 5 ls [.int y3]) rfl ?_
  refine lv_if_eq (tgt := 16) hx hb dX8_mark_5 (by decide) (fun c4 => ?_) (fun c4 => ?_)
  · have h := h.1 c4
    refine lv_iconst (v := (-1)) hx hb dX8_mark_16 (by decide) ?_
    exact tk_reti C w dX8_mark_17 h
  · have h := h.2 c4
    refine lv_aload_n hx hb dX8_mark_8 rfl (lv_at hl 0 rfl) ?_
    refine lv_iload_n hx hb dX8_mark_9 rfl (lv_at hl 3 rfl) ?_
    refine tk_cV C w (k := 132) rfl rfl (as := [aI x3]) (rest := []) mw_243 mw_5 mw_240 mw_241 mw_242 hd_X8_canCome (by decide) hl.1 (Nat.le_of_ble_eq_true rfl) rfl dX8_mark_10 h (fun r5 σ6 H locs hq w => ?_)
    obtain ⟨y7, rfl, h⟩ := hq
    refine W.eq (g2 := F0 m 13 ls [.int y7]) rfl ?_
    refine lv_if_ne (tgt := 18) hx hb dX8_mark_13 (by decide) (fun c8 => ?_) (fun c8 => ?_)
    · have h := h.1 c8
      refine lv_aload_n hx hb dX8_mark_18 rfl (lv_at hl 0 rfl) ?_
      refine lv_iconst (v := 2) hx hb dX8_mark_19 (by decide) ?_
      refine lv_iload_n hx hb dX8_mark_20 rfl (lv_at hl 3 rfl) ?_
      refine lv_iconst (v := 1) hx hb dX8_mark_21 (by decide) ?_
      refine tk_cV C w (k := 132) rfl rfl (as := [aI 2, aI x3, aI 1]) (rest := []) mw_248 mw_5 mw_245 mw_246 mw_247 hd_X8_comes (by decide) hl.1 (Nat.le_of_ble_eq_true rfl) rfl dX8_mark_22 h (fun r9 σ10 H locs hq w => ?_)
      obtain ⟨y11, rfl, h⟩ := hq
      refine W.eq (g2 := F0 m 25 ls [.int y11]) rfl ?_
      refine lv_istore (lv' := [(4, .int y11), (0, .ref (ad 132)), (1, .int x1), (2, .int x2), (3, .int x3)]) hx hb dX8_mark_25 hl (by decide) rfl (fun ls hl => ?_)
      refine lv_aload_n hx hb dX8_mark_27 rfl (lv_at hl 1 rfl) ?_
      refine tk_get (k := 132) (v := .ref (ad 138)) hx hb hts hown w rfl rfl inlX8 8 (by decide) mw_106 rfl dX8_mark_28 ?_
      refine lv_bipush (v := 8) hx hb dX8_mark_31 (by decide) ?_
      refine lv_iload hx hb dX8_mark_33 (lv_at hl 0 rfl) ?_
      refine lv_imul hx hb dX8_mark_35 ?_
      refine lv_iload_n hx hb dX8_mark_36 rfl (lv_at hl 2 rfl) ?_
      obtain ⟨hi12, h⟩ := h
      refine tk_iast (k := 138) hx hb w rfl hi12 dX8_mark_37 (fun H locs w => ?_)
      refine lv_aload_n hx hb dX8_mark_38 rfl (lv_at hl 1 rfl) ?_
      refine tk_get (k := 132) (v := .ref (ad 139)) hx hb hts hown w rfl rfl inlX8 9 (by decide) mw_107 rfl dX8_mark_39 ?_
      refine lv_bipush (v := 8) hx hb dX8_mark_42 (by decide) ?_
      refine lv_iload hx hb dX8_mark_44 (lv_at hl 0 rfl) ?_
      refine lv_imul hx hb dX8_mark_46 ?_
      refine lv_iload_n hx hb dX8_mark_47 rfl (lv_at hl 3 rfl) ?_
      obtain ⟨hi13, h⟩ := h
      refine tk_iast (k := 139) hx hb w rfl hi13 dX8_mark_48 (fun H locs w => ?_)
      generalize e_σ14 : tk_up (tk_up σ10 138 (Int32.toNatClampNeg (8 * y11)) x1) 139 (Int32.toNatClampNeg (8 * y11)) x2 = σ14 at w
      have h := h σ14 e_σ14.symm
      refine lv_aload_n hx hb dX8_mark_49 rfl (lv_at hl 1 rfl) ?_
      refine lv_iload hx hb dX8_mark_50 (lv_at hl 0 rfl) ?_
      refine tk_cV C w (k := 132) rfl rfl (as := [aI y11]) (rest := []) mw_252 mw_5 mw_249 mw_250 mw_251 hd_X8_draws (by decide) hl.1 (Nat.le_of_ble_eq_true rfl) rfl dX8_mark_52 h (fun r15 σ16 H locs hq w => ?_)
      obtain ⟨rfl, h⟩ := hq
      refine W.eq (g2 := F0 m 55 ls []) rfl ?_
      refine lv_iload hx hb dX8_mark_55 (lv_at hl 0 rfl) ?_
      exact tk_reti C w dX8_mark_57 h
    · have h := h.2 c8
      refine lv_iconst (v := (-1)) hx hb dX8_mark_16 (by decide) ?_
      exact tk_reti C w dX8_mark_17 h
theorem e_X8_mark (d : Nat) (x1 : Int32) (x2 : Int32) (x3 : Int32) {σ : tk_S} {Q : Int32 → tk_S → Prop} (h : g_X8_mark d 0 [(0, aN 132), (1, aI x1), (2, aI x2), (3, aI x3)] σ Q) : p_X8_mark d [aN 132, aI x1, aI x2, aI x3] σ Q := tk_entry (by decide) rfl (fun _ => Nat.le_of_ble_eq_true rfl) (fun _ => rfl) h
abbrev g_X8_undo (d pc : Nat) (vals : List (Nat × tk_V)) (σ : tk_S) (Q : Int32 → tk_S → Prop) : Prop := tk_G RX8 cX8_undo 1 (some .boolean) d pc vals σ (tk_i Q)
set_option maxHeartbeats 4000000 in
set_option maxRecDepth 100000 in
theorem b_X8_undo_0 (d : Nat)  (σ : tk_S) (Q : Int32 → tk_S → Prop) (h : (¬ (σ.1 132 0) = 0 → Q 1 (tk_up σ 132 0 ((σ.1 132 0) - 1))) ∧ ((σ.1 132 0) = 0 → Q 0 σ)) : g_X8_undo d 0 [(0, aN 132)] σ Q := by
  intro p l e s m args below meth c D cy ad base H locs ls C w hl
  obtain ⟨hx, hb, hml, hown, hts, hr, hlk⟩ := id C
  have hl : lv_has ls 1 [(0, .ref (ad 132))] := hl
  refine lv_aload_n hx hb dX8_undo_0 rfl (lv_at hl 0 rfl) ?_
  refine tk_get (k := 132) (v := .int (σ.1 132 0)) hx hb hts hown w rfl rfl inlX8 0 (by decide) mw_244 rfl dX8_undo_1 ?_
  refine lv_if_ne (tgt := 9) hx hb dX8_undo_4 (by decide) (fun c1 => ?_) (fun c1 => ?_)
  · have h := h.1 c1
    refine lv_aload_n hx hb dX8_undo_9 rfl (lv_at hl 0 rfl) ?_
    refine lv_dup hx hb dX8_undo_10 rfl ?_
    refine tk_get (k := 132) (v := .int (σ.1 132 0)) hx hb hts hown w rfl rfl inlX8 0 (by decide) mw_244 rfl dX8_undo_11 ?_
    refine lv_iconst (v := 1) hx hb dX8_undo_14 (by decide) ?_
    refine lv_isub hx hb dX8_undo_15 ?_
    refine tk_puti (k := 132) (ty := .int) hx hb hts hown w rfl rfl inlX8 tyX8 tyX8_ok nmX8 0 (by decide) mw_244 rfl rfl (by decide +kernel) rfl rfl dX8_undo_16 (fun H locs w => ?_)
    refine lv_iconst (v := 1) hx hb dX8_undo_19 (by decide) ?_
    exact tk_retz C w dX8_undo_20 rfl h
  · have h := h.2 c1
    refine lv_iconst (v := 0) hx hb dX8_undo_7 (by decide) ?_
    exact tk_retz C w dX8_undo_8 rfl h
theorem e_X8_undo (d : Nat)  {σ : tk_S} {Q : Int32 → tk_S → Prop} (h : g_X8_undo d 0 [(0, aN 132)] σ Q) : p_X8_undo d [aN 132] σ Q := tk_entry (by decide) rfl (fun _ => Nat.le_of_ble_eq_true rfl) (fun _ => rfl) h
abbrev g_X8_gap (d pc : Nat) (vals : List (Nat × tk_V)) (σ : tk_S) (Q : Int32 → tk_S → Prop) : Prop := tk_G RX8 cX8_gap 2 (some .boolean) d pc vals σ (tk_i Q)
set_option maxHeartbeats 4000000 in
set_option maxRecDepth 100000 in
theorem b_X8_gap_0 (d : Nat) (x1 : Int32) (σ : tk_S) (Q : Int32 → tk_S → Prop) (h : p_X8_isIn d [aI x1, aI 1, aI 6] σ (fun y3 σ2 => (¬ y3 = 0 → Q 1 (tk_up σ2 132 2 x1)) ∧ (y3 = 0 → Q 0 σ2))) : g_X8_gap (d + 1) 0 [(0, aN 132), (1, aI x1)] σ Q := by
  intro p l e s m args below meth c D cy ad base H locs ls C w hl
  obtain ⟨hx, hb, hml, hown, hts, hr, hlk⟩ := id C
  have hl : lv_has ls 2 [(0, .ref (ad 132)), (1, .int x1)] := hl
  refine lv_iload_n hx hb dX8_gap_0 rfl (lv_at hl 1 rfl) ?_
  refine lv_iconst (v := 1) hx hb dX8_gap_1 (by decide) ?_
  refine lv_bipush (v := 6) hx hb dX8_gap_2 (by decide) ?_
  refine tk_cS C w (as := [aI x1, aI 1, aI 6]) (rest := []) mw_140 mw_5 mw_138 mw_139 hd_X8_isIn (by decide) hl.1 (Nat.le_of_ble_eq_true rfl) rfl dX8_gap_4 h (fun r1 σ2 H locs hq w => ?_)
  obtain ⟨y3, rfl, h⟩ := hq
  refine W.eq (g2 := F0 m 7 ls [.int y3]) rfl ?_
  refine lv_if_ne (tgt := 12) hx hb dX8_gap_7 (by decide) (fun c4 => ?_) (fun c4 => ?_)
  · have h := h.1 c4
    refine lv_aload_n hx hb dX8_gap_12 rfl (lv_at hl 0 rfl) ?_
    refine lv_iload_n hx hb dX8_gap_13 rfl (lv_at hl 1 rfl) ?_
    refine tk_puti (k := 132) (ty := .int) hx hb hts hown w rfl rfl inlX8 tyX8 tyX8_ok nmX8 2 (by decide) mw_100 rfl rfl (by decide +kernel) rfl rfl dX8_gap_14 (fun H locs w => ?_)
    refine lv_iconst (v := 1) hx hb dX8_gap_17 (by decide) ?_
    exact tk_retz C w dX8_gap_18 rfl h
  · have h := h.2 c4
    refine lv_iconst (v := 0) hx hb dX8_gap_10 (by decide) ?_
    exact tk_retz C w dX8_gap_11 rfl h
theorem e_X8_gap (d : Nat) (x1 : Int32) {σ : tk_S} {Q : Int32 → tk_S → Prop} (h : g_X8_gap d 0 [(0, aN 132), (1, aI x1)] σ Q) : p_X8_gap d [aN 132, aI x1] σ Q := tk_entry (by decide) rfl (fun _ => Nat.le_of_ble_eq_true rfl) (fun _ => rfl) h
abbrev g_X8_meet (d pc : Nat) (vals : List (Nat × tk_V)) (σ : tk_S) (Q : Int32 → tk_S → Prop) : Prop := tk_G RX8 cX8_meet 4 (some .boolean) d pc vals σ (tk_i Q)
set_option maxHeartbeats 4000000 in
set_option maxRecDepth 100000 in
theorem b_X8_meet_0 (d : Nat) (x1 : Int32) (x2 : Int32) (x3 : Int32) (σ : tk_S) (Q : Int32 → tk_S → Prop) (h : p_X8_isShape d [aN 132, aI x1] σ (fun y3 σ2 => (y3 = 0 → Q 0 σ2) ∧ (¬ y3 = 0 → p_X8_isShape d [aN 132, aI x2] σ2 (fun y7 σ6 => (y7 = 0 → Q 0 σ6) ∧ (¬ y7 = 0 → (x1 = x2 → Q 0 σ6) ∧ (¬ x1 = x2 → vp_in ((12 * x1) + x2) 144 ∧ ((¬ (σ6.1 141 (Int32.toNatClampNeg ((12 * x1) + x2))) = x3 → vp_in ((12 * x1) + x2) 144 ∧ vp_nar .boolean x3 = x3 ∧ (vp_in ((12 * x2) + x1) 144 ∧ vp_nar .boolean x3 = x3 ∧ (∀ σ16 : tk_S, σ16 = tk_up (tk_up σ6 141 (Int32.toNatClampNeg ((12 * x1) + x2)) x3) 141 (Int32.toNatClampNeg ((12 * x2) + x1)) x3 → Q 1 σ16))) ∧ ((σ6.1 141 (Int32.toNatClampNeg ((12 * x1) + x2))) = x3 → Q 0 σ6)))))))) : g_X8_meet (d + 1) 0 [(0, aN 132), (1, aI x1), (2, aI x2), (3, aI x3)] σ Q := by
  intro p l e s m args below meth c D cy ad base H locs ls C w hl
  obtain ⟨hx, hb, hml, hown, hts, hr, hlk⟩ := id C
  have hl : lv_has ls 4 [(0, .ref (ad 132)), (1, .int x1), (2, .int x2), (3, .int x3)] := hl
  refine lv_aload_n hx hb dX8_meet_0 rfl (lv_at hl 0 rfl) ?_
  refine lv_iload_n hx hb dX8_meet_1 rfl (lv_at hl 1 rfl) ?_
  refine tk_cV C w (k := 132) rfl rfl (as := [aI x1]) (rest := []) mw_314 mw_5 mw_311 mw_312 mw_313 hd_X8_isShape (by decide) hl.1 (Nat.le_of_ble_eq_true rfl) rfl dX8_meet_2 h (fun r1 σ2 H locs hq w => ?_)
  obtain ⟨y3, rfl, h⟩ := hq
  refine W.eq (g2 := F0 m 5 ls [.int y3]) rfl ?_
  refine lv_if_eq (tgt := 36) hx hb dX8_meet_5 (by decide) (fun c4 => ?_) (fun c4 => ?_)
  · have h := h.1 c4
    refine lv_iconst (v := 0) hx hb dX8_meet_36 (by decide) ?_
    exact tk_retz C w dX8_meet_37 rfl h
  · have h := h.2 c4
    refine lv_aload_n hx hb dX8_meet_8 rfl (lv_at hl 0 rfl) ?_
    refine lv_iload_n hx hb dX8_meet_9 rfl (lv_at hl 2 rfl) ?_
    refine tk_cV C w (k := 132) rfl rfl (as := [aI x2]) (rest := []) mw_314 mw_5 mw_311 mw_312 mw_313 hd_X8_isShape (by decide) hl.1 (Nat.le_of_ble_eq_true rfl) rfl dX8_meet_10 h (fun r5 σ6 H locs hq w => ?_)
    obtain ⟨y7, rfl, h⟩ := hq
    refine W.eq (g2 := F0 m 13 ls [.int y7]) rfl ?_
    refine lv_if_eq (tgt := 36) hx hb dX8_meet_13 (by decide) (fun c8 => ?_) (fun c8 => ?_)
    · have h := h.1 c8
      refine lv_iconst (v := 0) hx hb dX8_meet_36 (by decide) ?_
      exact tk_retz C w dX8_meet_37 rfl h
    · have h := h.2 c8
      refine lv_iload_n hx hb dX8_meet_16 rfl (lv_at hl 1 rfl) ?_
      refine lv_iload_n hx hb dX8_meet_17 rfl (lv_at hl 2 rfl) ?_
      refine lv_icmp_eq (tgt := 36) hx hb dX8_meet_18 (by decide) (fun c9 => ?_) (fun c9 => ?_)
      · have h := h.1 c9
        refine lv_iconst (v := 0) hx hb dX8_meet_36 (by decide) ?_
        exact tk_retz C w dX8_meet_37 rfl h
      · have h := h.2 c9
        refine lv_aload_n hx hb dX8_meet_21 rfl (lv_at hl 0 rfl) ?_
        refine tk_get (k := 132) (v := .ref (ad 141)) hx hb hts hown w rfl rfl inlX8 11 (by decide) mw_110 rfl dX8_meet_22 ?_
        refine lv_bipush (v := 12) hx hb dX8_meet_25 (by decide) ?_
        refine lv_iload_n hx hb dX8_meet_27 rfl (lv_at hl 1 rfl) ?_
        refine lv_imul hx hb dX8_meet_28 ?_
        refine lv_iload_n hx hb dX8_meet_29 rfl (lv_at hl 2 rfl) ?_
        refine lv_iadd hx hb dX8_meet_30 ?_
        obtain ⟨hi10, h⟩ := h
        refine tk_zald (k := 141) hx hb w rfl hi10 dX8_meet_31 ?_
        refine lv_iload_n hx hb dX8_meet_32 rfl (lv_at hl 3 rfl) ?_
        refine lv_icmp_ne (tgt := 38) hx hb dX8_meet_33 (by decide) (fun c11 => ?_) (fun c11 => ?_)
        · have h := h.1 c11
          refine lv_aload_n hx hb dX8_meet_38 rfl (lv_at hl 0 rfl) ?_
          refine tk_get (k := 132) (v := .ref (ad 141)) hx hb hts hown w rfl rfl inlX8 11 (by decide) mw_110 rfl dX8_meet_39 ?_
          refine lv_bipush (v := 12) hx hb dX8_meet_42 (by decide) ?_
          refine lv_iload_n hx hb dX8_meet_44 rfl (lv_at hl 1 rfl) ?_
          refine lv_imul hx hb dX8_meet_45 ?_
          refine lv_iload_n hx hb dX8_meet_46 rfl (lv_at hl 2 rfl) ?_
          refine lv_iadd hx hb dX8_meet_47 ?_
          refine lv_iload_n hx hb dX8_meet_48 rfl (lv_at hl 3 rfl) ?_
          obtain ⟨hi12, h⟩ := h
          obtain ⟨hn13, h⟩ := h
          refine tk_zast (k := 141) hx hb w rfl hi12 hn13 dX8_meet_49 (fun H locs w => ?_)
          refine lv_aload_n hx hb dX8_meet_50 rfl (lv_at hl 0 rfl) ?_
          refine tk_get (k := 132) (v := .ref (ad 141)) hx hb hts hown w rfl rfl inlX8 11 (by decide) mw_110 rfl dX8_meet_51 ?_
          refine lv_bipush (v := 12) hx hb dX8_meet_54 (by decide) ?_
          refine lv_iload_n hx hb dX8_meet_56 rfl (lv_at hl 2 rfl) ?_
          refine lv_imul hx hb dX8_meet_57 ?_
          refine lv_iload_n hx hb dX8_meet_58 rfl (lv_at hl 1 rfl) ?_
          refine lv_iadd hx hb dX8_meet_59 ?_
          refine lv_iload_n hx hb dX8_meet_60 rfl (lv_at hl 3 rfl) ?_
          obtain ⟨hi14, h⟩ := h
          obtain ⟨hn15, h⟩ := h
          refine tk_zast (k := 141) hx hb w rfl hi14 hn15 dX8_meet_61 (fun H locs w => ?_)
          generalize e_σ16 : tk_up (tk_up σ6 141 (Int32.toNatClampNeg ((12 * x1) + x2)) x3) 141 (Int32.toNatClampNeg ((12 * x2) + x1)) x3 = σ16 at w
          have h := h σ16 e_σ16.symm
          refine lv_iconst (v := 1) hx hb dX8_meet_62 (by decide) ?_
          exact tk_retz C w dX8_meet_63 rfl h
        · have h := h.2 c11
          refine lv_iconst (v := 0) hx hb dX8_meet_36 (by decide) ?_
          exact tk_retz C w dX8_meet_37 rfl h
theorem e_X8_meet (d : Nat) (x1 : Int32) (x2 : Int32) (x3 : Int32) {σ : tk_S} {Q : Int32 → tk_S → Prop} (h : g_X8_meet d 0 [(0, aN 132), (1, aI x1), (2, aI x2), (3, aI x3)] σ Q) : p_X8_meet d [aN 132, aI x1, aI x2, aI x3] σ Q := tk_entry (by decide) rfl (fun _ => Nat.le_of_ble_eq_true rfl) (fun _ => rfl) h
abbrev g_X8_isTexture (d pc : Nat) (vals : List (Nat × tk_V)) (σ : tk_S) (Q : Int32 → tk_S → Prop) : Prop := tk_G RX8 cX8_isTexture 1 (some .boolean) d pc vals σ (tk_i Q)
set_option maxHeartbeats 4000000 in
set_option maxRecDepth 100000 in
theorem b_X8_isTexture_0 (d : Nat) (x0 : Int32) (σ : tk_S) (Q : Int32 → tk_S → Prop) (h : p_X8_isIn d [aI x0, aI 0, aI 3] σ (fun y3 σ2 => narrow .boolean (.int y3) = .int y3 ∧ Q y3 σ2)) : g_X8_isTexture (d + 1) 0 [(0, aI x0)] σ Q := by
  intro p l e s m args below meth c D cy ad base H locs ls C w hl
  obtain ⟨hx, hb, hml, hown, hts, hr, hlk⟩ := id C
  have hl : lv_has ls 1 [(0, .int x0)] := hl
  refine lv_iload_n hx hb dX8_isTexture_0 rfl (lv_at hl 0 rfl) ?_
  refine lv_iconst (v := 0) hx hb dX8_isTexture_1 (by decide) ?_
  refine lv_iconst (v := 3) hx hb dX8_isTexture_2 (by decide) ?_
  refine tk_cS C w (as := [aI x0, aI 0, aI 3]) (rest := []) mw_140 mw_5 mw_138 mw_139 hd_X8_isIn (by decide) hl.1 (Nat.le_of_ble_eq_true rfl) rfl dX8_isTexture_3 h (fun r1 σ2 H locs hq w => ?_)
  obtain ⟨y3, rfl, h⟩ := hq
  refine W.eq (g2 := F0 m 6 ls [.int y3]) rfl ?_
  exact tk_retz C w dX8_isTexture_6 h.1 h.2
theorem e_X8_isTexture (d : Nat) (x0 : Int32) {σ : tk_S} {Q : Int32 → tk_S → Prop} (h : g_X8_isTexture d 0 [(0, aI x0)] σ Q) : p_X8_isTexture d [aI x0] σ Q := tk_entry (by decide) rfl (fun _ => Nat.le_of_ble_eq_true rfl) (fun _ => rfl) h
abbrev g_X8_apart (d pc : Nat) (vals : List (Nat × tk_V)) (σ : tk_S) (Q : Int32 → tk_S → Prop) : Prop := tk_G RX8 cX8_apart 4 (some .boolean) d pc vals σ (tk_i Q)
set_option maxHeartbeats 4000000 in
set_option maxRecDepth 100000 in
theorem b_X8_apart_0 (d : Nat) (x1 : Int32) (x2 : Int32) (x3 : Int32) (σ : tk_S) (Q : Int32 → tk_S → Prop) (h : p_X8_isTexture d [aI x1] σ (fun y3 σ2 => (y3 = 0 → Q 0 σ2) ∧ (¬ y3 = 0 → p_X8_isTexture d [aI x2] σ2 (fun y7 σ6 => (y7 = 0 → Q 0 σ6) ∧ (¬ y7 = 0 → (x1 = x2 → Q 0 σ6) ∧ (¬ x1 = x2 → vp_in ((4 * x1) + x2) 16 ∧ ((¬ (σ6.1 142 (Int32.toNatClampNeg ((4 * x1) + x2))) = x3 → vp_in ((4 * x1) + x2) 16 ∧ vp_nar .boolean x3 = x3 ∧ (vp_in ((4 * x2) + x1) 16 ∧ vp_nar .boolean x3 = x3 ∧ (∀ σ16 : tk_S, σ16 = tk_up (tk_up σ6 142 (Int32.toNatClampNeg ((4 * x1) + x2)) x3) 142 (Int32.toNatClampNeg ((4 * x2) + x1)) x3 → Q 1 σ16))) ∧ ((σ6.1 142 (Int32.toNatClampNeg ((4 * x1) + x2))) = x3 → Q 0 σ6)))))))) : g_X8_apart (d + 1) 0 [(0, aN 132), (1, aI x1), (2, aI x2), (3, aI x3)] σ Q := by
  intro p l e s m args below meth c D cy ad base H locs ls C w hl
  obtain ⟨hx, hb, hml, hown, hts, hr, hlk⟩ := id C
  have hl : lv_has ls 4 [(0, .ref (ad 132)), (1, .int x1), (2, .int x2), (3, .int x3)] := hl
  refine lv_iload_n hx hb dX8_apart_0 rfl (lv_at hl 1 rfl) ?_
  refine tk_cS C w (as := [aI x1]) (rest := []) mw_329 mw_5 mw_327 mw_328 hd_X8_isTexture (by decide) hl.1 (Nat.le_of_ble_eq_true rfl) rfl dX8_apart_1 h (fun r1 σ2 H locs hq w => ?_)
  obtain ⟨y3, rfl, h⟩ := hq
  refine W.eq (g2 := F0 m 4 ls [.int y3]) rfl ?_
  refine lv_if_eq (tgt := 33) hx hb dX8_apart_4 (by decide) (fun c4 => ?_) (fun c4 => ?_)
  · have h := h.1 c4
    refine lv_iconst (v := 0) hx hb dX8_apart_33 (by decide) ?_
    exact tk_retz C w dX8_apart_34 rfl h
  · have h := h.2 c4
    refine lv_iload_n hx hb dX8_apart_7 rfl (lv_at hl 2 rfl) ?_
    refine tk_cS C w (as := [aI x2]) (rest := []) mw_329 mw_5 mw_327 mw_328 hd_X8_isTexture (by decide) hl.1 (Nat.le_of_ble_eq_true rfl) rfl dX8_apart_8 h (fun r5 σ6 H locs hq w => ?_)
    obtain ⟨y7, rfl, h⟩ := hq
    refine W.eq (g2 := F0 m 11 ls [.int y7]) rfl ?_
    refine lv_if_eq (tgt := 33) hx hb dX8_apart_11 (by decide) (fun c8 => ?_) (fun c8 => ?_)
    · have h := h.1 c8
      refine lv_iconst (v := 0) hx hb dX8_apart_33 (by decide) ?_
      exact tk_retz C w dX8_apart_34 rfl h
    · have h := h.2 c8
      refine lv_iload_n hx hb dX8_apart_14 rfl (lv_at hl 1 rfl) ?_
      refine lv_iload_n hx hb dX8_apart_15 rfl (lv_at hl 2 rfl) ?_
      refine lv_icmp_eq (tgt := 33) hx hb dX8_apart_16 (by decide) (fun c9 => ?_) (fun c9 => ?_)
      · have h := h.1 c9
        refine lv_iconst (v := 0) hx hb dX8_apart_33 (by decide) ?_
        exact tk_retz C w dX8_apart_34 rfl h
      · have h := h.2 c9
        refine lv_aload_n hx hb dX8_apart_19 rfl (lv_at hl 0 rfl) ?_
        refine tk_get (k := 132) (v := .ref (ad 142)) hx hb hts hown w rfl rfl inlX8 12 (by decide) mw_111 rfl dX8_apart_20 ?_
        refine lv_iconst (v := 4) hx hb dX8_apart_23 (by decide) ?_
        refine lv_iload_n hx hb dX8_apart_24 rfl (lv_at hl 1 rfl) ?_
        refine lv_imul hx hb dX8_apart_25 ?_
        refine lv_iload_n hx hb dX8_apart_26 rfl (lv_at hl 2 rfl) ?_
        refine lv_iadd hx hb dX8_apart_27 ?_
        obtain ⟨hi10, h⟩ := h
        refine tk_zald (k := 142) hx hb w rfl hi10 dX8_apart_28 ?_
        refine lv_iload_n hx hb dX8_apart_29 rfl (lv_at hl 3 rfl) ?_
        refine lv_icmp_ne (tgt := 35) hx hb dX8_apart_30 (by decide) (fun c11 => ?_) (fun c11 => ?_)
        · have h := h.1 c11
          refine lv_aload_n hx hb dX8_apart_35 rfl (lv_at hl 0 rfl) ?_
          refine tk_get (k := 132) (v := .ref (ad 142)) hx hb hts hown w rfl rfl inlX8 12 (by decide) mw_111 rfl dX8_apart_36 ?_
          refine lv_iconst (v := 4) hx hb dX8_apart_39 (by decide) ?_
          refine lv_iload_n hx hb dX8_apart_40 rfl (lv_at hl 1 rfl) ?_
          refine lv_imul hx hb dX8_apart_41 ?_
          refine lv_iload_n hx hb dX8_apart_42 rfl (lv_at hl 2 rfl) ?_
          refine lv_iadd hx hb dX8_apart_43 ?_
          refine lv_iload_n hx hb dX8_apart_44 rfl (lv_at hl 3 rfl) ?_
          obtain ⟨hi12, h⟩ := h
          obtain ⟨hn13, h⟩ := h
          refine tk_zast (k := 142) hx hb w rfl hi12 hn13 dX8_apart_45 (fun H locs w => ?_)
          refine lv_aload_n hx hb dX8_apart_46 rfl (lv_at hl 0 rfl) ?_
          refine tk_get (k := 132) (v := .ref (ad 142)) hx hb hts hown w rfl rfl inlX8 12 (by decide) mw_111 rfl dX8_apart_47 ?_
          refine lv_iconst (v := 4) hx hb dX8_apart_50 (by decide) ?_
          refine lv_iload_n hx hb dX8_apart_51 rfl (lv_at hl 2 rfl) ?_
          refine lv_imul hx hb dX8_apart_52 ?_
          refine lv_iload_n hx hb dX8_apart_53 rfl (lv_at hl 1 rfl) ?_
          refine lv_iadd hx hb dX8_apart_54 ?_
          refine lv_iload_n hx hb dX8_apart_55 rfl (lv_at hl 3 rfl) ?_
          obtain ⟨hi14, h⟩ := h
          obtain ⟨hn15, h⟩ := h
          refine tk_zast (k := 142) hx hb w rfl hi14 hn15 dX8_apart_56 (fun H locs w => ?_)
          generalize e_σ16 : tk_up (tk_up σ6 142 (Int32.toNatClampNeg ((4 * x1) + x2)) x3) 142 (Int32.toNatClampNeg ((4 * x2) + x1)) x3 = σ16 at w
          have h := h σ16 e_σ16.symm
          refine lv_iconst (v := 1) hx hb dX8_apart_57 (by decide) ?_
          exact tk_retz C w dX8_apart_58 rfl h
        · have h := h.2 c11
          refine lv_iconst (v := 0) hx hb dX8_apart_33 (by decide) ?_
          exact tk_retz C w dX8_apart_34 rfl h
theorem e_X8_apart (d : Nat) (x1 : Int32) (x2 : Int32) (x3 : Int32) {σ : tk_S} {Q : Int32 → tk_S → Prop} (h : g_X8_apart d 0 [(0, aN 132), (1, aI x1), (2, aI x2), (3, aI x3)] σ Q) : p_X8_apart d [aN 132, aI x1, aI x2, aI x3] σ Q := tk_entry (by decide) rfl (fun _ => Nat.le_of_ble_eq_true rfl) (fun _ => rfl) h
abbrev g_X8_price (d pc : Nat) (vals : List (Nat × tk_V)) (σ : tk_S) (Q : Int32 → tk_S → Prop) : Prop := tk_G RX8 cX8_price 3 (some .boolean) d pc vals σ (tk_i Q)
set_option maxHeartbeats 4000000 in
set_option maxRecDepth 100000 in
theorem b_X8_price_0 (d : Nat) (x1 : Int32) (x2 : Int32) (σ : tk_S) (Q : Int32 → tk_S → Prop) (h : p_X8_isTexture d [aI x1] σ (fun y3 σ2 => (y3 = 0 → Q 0 σ2) ∧ (¬ y3 = 0 → p_X8_isIn d [aI x2, aI 0, aI 99] σ2 (fun y7 σ6 => (¬ y7 = 0 → vp_in x1 4 ∧ (Q 1 (tk_up σ6 143 (Int32.toNatClampNeg x1) x2))) ∧ (y7 = 0 → Q 0 σ6))))) : g_X8_price (d + 1) 0 [(0, aN 132), (1, aI x1), (2, aI x2)] σ Q := by
  intro p l e s m args below meth c D cy ad base H locs ls C w hl
  obtain ⟨hx, hb, hml, hown, hts, hr, hlk⟩ := id C
  have hl : lv_has ls 3 [(0, .ref (ad 132)), (1, .int x1), (2, .int x2)] := hl
  refine lv_iload_n hx hb dX8_price_0 rfl (lv_at hl 1 rfl) ?_
  refine tk_cS C w (as := [aI x1]) (rest := []) mw_329 mw_5 mw_327 mw_328 hd_X8_isTexture (by decide) hl.1 (Nat.le_of_ble_eq_true rfl) rfl dX8_price_1 h (fun r1 σ2 H locs hq w => ?_)
  obtain ⟨y3, rfl, h⟩ := hq
  refine W.eq (g2 := F0 m 4 ls [.int y3]) rfl ?_
  refine lv_if_eq (tgt := 17) hx hb dX8_price_4 (by decide) (fun c4 => ?_) (fun c4 => ?_)
  · have h := h.1 c4
    refine lv_iconst (v := 0) hx hb dX8_price_17 (by decide) ?_
    exact tk_retz C w dX8_price_18 rfl h
  · have h := h.2 c4
    refine lv_iload_n hx hb dX8_price_7 rfl (lv_at hl 2 rfl) ?_
    refine lv_iconst (v := 0) hx hb dX8_price_8 (by decide) ?_
    refine lv_bipush (v := 99) hx hb dX8_price_9 (by decide) ?_
    refine tk_cS C w (as := [aI x2, aI 0, aI 99]) (rest := []) mw_140 mw_5 mw_138 mw_139 hd_X8_isIn (by decide) hl.1 (Nat.le_of_ble_eq_true rfl) rfl dX8_price_11 h (fun r5 σ6 H locs hq w => ?_)
    obtain ⟨y7, rfl, h⟩ := hq
    refine W.eq (g2 := F0 m 14 ls [.int y7]) rfl ?_
    refine lv_if_ne (tgt := 19) hx hb dX8_price_14 (by decide) (fun c8 => ?_) (fun c8 => ?_)
    · have h := h.1 c8
      refine lv_aload_n hx hb dX8_price_19 rfl (lv_at hl 0 rfl) ?_
      refine tk_get (k := 132) (v := .ref (ad 143)) hx hb hts hown w rfl rfl inlX8 13 (by decide) mw_112 rfl dX8_price_20 ?_
      refine lv_iload_n hx hb dX8_price_23 rfl (lv_at hl 1 rfl) ?_
      refine lv_iload_n hx hb dX8_price_24 rfl (lv_at hl 2 rfl) ?_
      obtain ⟨hi9, h⟩ := h
      refine tk_iast (k := 143) hx hb w rfl hi9 dX8_price_25 (fun H locs w => ?_)
      refine lv_iconst (v := 1) hx hb dX8_price_26 (by decide) ?_
      exact tk_retz C w dX8_price_27 rfl h
    · have h := h.2 c8
      refine lv_iconst (v := 0) hx hb dX8_price_17 (by decide) ?_
      exact tk_retz C w dX8_price_18 rfl h
theorem e_X8_price (d : Nat) (x1 : Int32) (x2 : Int32) {σ : tk_S} {Q : Int32 → tk_S → Prop} (h : g_X8_price d 0 [(0, aN 132), (1, aI x1), (2, aI x2)] σ Q) : p_X8_price d [aN 132, aI x1, aI x2] σ Q := tk_entry (by decide) rfl (fun _ => Nat.le_of_ble_eq_true rfl) (fun _ => rfl) h
abbrev g_X8_puts (d pc : Nat) (vals : List (Nat × tk_V)) (σ : tk_S) (Q : tk_S → Prop) : Prop := tk_G RX8 cX8_puts 4 none d pc vals σ (tk_v Q)
set_option maxHeartbeats 4000000 in
set_option maxRecDepth 100000 in
theorem b_X8_puts_0 (d : Nat) (x1 : Int32) (x2 : Int32) (x3 : Int32) (σ : tk_S) (Q : tk_S → Prop) (h : p_X8_isPin d [aI x2, aI x3] σ (fun y3 σ2 => (y3 = 0 → Q σ2) ∧ (¬ y3 = 0 → vp_in (((576 * x1) + (24 * x3)) + x2) 6912 ∧ (Q (tk_up σ2 140 (Int32.toNatClampNeg (((576 * x1) + (24 * x3)) + x2)) 1))))) : g_X8_puts (d + 1) 0 [(0, aN 132), (1, aI x1), (2, aI x2), (3, aI x3)] σ Q := by
  intro p l e s m args below meth c D cy ad base H locs ls C w hl
  obtain ⟨hx, hb, hml, hown, hts, hr, hlk⟩ := id C
  have hl : lv_has ls 4 [(0, .ref (ad 132)), (1, .int x1), (2, .int x2), (3, .int x3)] := hl
  refine lv_iload_n hx hb dX8_puts_0 rfl (lv_at hl 2 rfl) ?_
  refine lv_iload_n hx hb dX8_puts_1 rfl (lv_at hl 3 rfl) ?_
  refine tk_cS C w (as := [aI x2, aI x3]) (rest := []) mw_137 mw_5 mw_135 mw_136 hd_X8_isPin (by decide) hl.1 (Nat.le_of_ble_eq_true rfl) rfl dX8_puts_2 h (fun r1 σ2 H locs hq w => ?_)
  obtain ⟨y3, rfl, h⟩ := hq
  refine W.eq (g2 := F0 m 5 ls [.int y3]) rfl ?_
  refine lv_if_eq (tgt := 26) hx hb dX8_puts_5 (by decide) (fun c4 => ?_) (fun c4 => ?_)
  · have h := h.1 c4
    exact tk_retv C w dX8_puts_26 h
  · have h := h.2 c4
    refine lv_aload_n hx hb dX8_puts_8 rfl (lv_at hl 0 rfl) ?_
    refine tk_get (k := 132) (v := .ref (ad 140)) hx hb hts hown w rfl rfl inlX8 10 (by decide) mw_109 rfl dX8_puts_9 ?_
    refine lv_sipush (v := 576) hx hb dX8_puts_12 (by decide) ?_
    refine lv_iload_n hx hb dX8_puts_15 rfl (lv_at hl 1 rfl) ?_
    refine lv_imul hx hb dX8_puts_16 ?_
    refine lv_bipush (v := 24) hx hb dX8_puts_17 (by decide) ?_
    refine lv_iload_n hx hb dX8_puts_19 rfl (lv_at hl 3 rfl) ?_
    refine lv_imul hx hb dX8_puts_20 ?_
    refine lv_iadd hx hb dX8_puts_21 ?_
    refine lv_iload_n hx hb dX8_puts_22 rfl (lv_at hl 2 rfl) ?_
    refine lv_iadd hx hb dX8_puts_23 ?_
    refine lv_iconst (v := 1) hx hb dX8_puts_24 (by decide) ?_
    obtain ⟨hi5, h⟩ := h
    refine tk_zast (k := 140) hx hb w rfl hi5 rfl dX8_puts_25 (fun H locs w => ?_)
    exact tk_retv C w dX8_puts_26 h
theorem e_X8_puts (d : Nat) (x1 : Int32) (x2 : Int32) (x3 : Int32) {σ : tk_S} {Q : tk_S → Prop} (h : g_X8_puts d 0 [(0, aN 132), (1, aI x1), (2, aI x2), (3, aI x3)] σ Q) : p_X8_puts d [aN 132, aI x1, aI x2, aI x3] σ Q := tk_entry (by decide) rfl (fun _ => Nat.le_of_ble_eq_true rfl) (fun _ => rfl) h
abbrev g_X8_abs (d pc : Nat) (vals : List (Nat × tk_V)) (σ : tk_S) (Q : Int32 → tk_S → Prop) : Prop := tk_G RX8 cX8_abs 1 (some .int) d pc vals σ (tk_i Q)
set_option maxHeartbeats 4000000 in
set_option maxRecDepth 100000 in
theorem b_X8_abs_0 (d : Nat) (x0 : Int32) (σ : tk_S) (Q : Int32 → tk_S → Prop) (h : (0 ≤ x0 → Q x0 σ) ∧ (¬ 0 ≤ x0 → Q (-x0) σ)) : g_X8_abs d 0 [(0, aI x0)] σ Q := by
  intro p l e s m args below meth c D cy ad base H locs ls C w hl
  obtain ⟨hx, hb, hml, hown, hts, hr, hlk⟩ := id C
  have hl : lv_has ls 1 [(0, .int x0)] := hl
  refine lv_iload_n hx hb dX8_abs_0 rfl (lv_at hl 0 rfl) ?_
  refine lv_if_ge (tgt := 9) hx hb dX8_abs_1 (by decide) (fun c1 => ?_) (fun c1 => ?_)
  · have h := h.1 c1
    refine lv_iload_n hx hb dX8_abs_9 rfl (lv_at hl 0 rfl) ?_
    exact tk_reti C w dX8_abs_10 h
  · have h := h.2 c1
    refine lv_iload_n hx hb dX8_abs_4 rfl (lv_at hl 0 rfl) ?_
    refine lv_ineg hx hb dX8_abs_5 ?_
    refine lv_goto (tgt := 10) hx hb dX8_abs_6 (by decide) ?_
    exact tk_reti C w dX8_abs_10 h
theorem e_X8_abs (d : Nat) (x0 : Int32) {σ : tk_S} {Q : Int32 → tk_S → Prop} (h : g_X8_abs d 0 [(0, aI x0)] σ Q) : p_X8_abs d [aI x0] σ Q := tk_entry (by decide) rfl (fun _ => Nat.le_of_ble_eq_true rfl) (fun _ => rfl) h
abbrev g_X8_down (d pc : Nat) (vals : List (Nat × tk_V)) (σ : tk_S) (Q : Int32 → tk_S → Prop) : Prop := tk_G RX8 cX8_down 2 (some .int) d pc vals σ (tk_i Q)
set_option maxHeartbeats 4000000 in
set_option maxRecDepth 100000 in
theorem b_X8_down_0 (d : Nat) (x0 : Int32) (x1 : Int32) (σ : tk_S) (Q : Int32 → tk_S → Prop) (h : (x0 < 0 → ¬ x1 = 0 ∧ (Q (-((((-x0) + x1) - 1) / x1)) σ)) ∧ (¬ x0 < 0 → ¬ x1 = 0 ∧ (Q (x0 / x1) σ))) : g_X8_down d 0 [(0, aI x0), (1, aI x1)] σ Q := by
  intro p l e s m args below meth c D cy ad base H locs ls C w hl
  obtain ⟨hx, hb, hml, hown, hts, hr, hlk⟩ := id C
  have hl : lv_has ls 2 [(0, .int x0), (1, .int x1)] := hl
  refine lv_iload_n hx hb dX8_down_0 rfl (lv_at hl 0 rfl) ?_
  refine lv_if_lt (tgt := 10) hx hb dX8_down_1 (by decide) (fun c1 => ?_) (fun c1 => ?_)
  · have h := h.1 c1
    refine lv_iload_n hx hb dX8_down_10 rfl (lv_at hl 0 rfl) ?_
    refine lv_ineg hx hb dX8_down_11 ?_
    refine lv_iload_n hx hb dX8_down_12 rfl (lv_at hl 1 rfl) ?_
    refine lv_iadd hx hb dX8_down_13 ?_
    refine lv_iconst (v := 1) hx hb dX8_down_14 (by decide) ?_
    refine lv_isub hx hb dX8_down_15 ?_
    refine lv_iload_n hx hb dX8_down_16 rfl (lv_at hl 1 rfl) ?_
    obtain ⟨hd2, h⟩ := h
    refine lv_idiv hx hb dX8_down_17 hd2 ?_
    refine lv_ineg hx hb dX8_down_18 ?_
    exact tk_reti C w dX8_down_19 h
  · have h := h.2 c1
    refine lv_iload_n hx hb dX8_down_4 rfl (lv_at hl 0 rfl) ?_
    refine lv_iload_n hx hb dX8_down_5 rfl (lv_at hl 1 rfl) ?_
    obtain ⟨hd3, h⟩ := h
    refine lv_idiv hx hb dX8_down_6 hd3 ?_
    refine lv_goto (tgt := 19) hx hb dX8_down_7 (by decide) ?_
    exact tk_reti C w dX8_down_19 h
theorem e_X8_down (d : Nat) (x0 : Int32) (x1 : Int32) {σ : tk_S} {Q : Int32 → tk_S → Prop} (h : g_X8_down d 0 [(0, aI x0), (1, aI x1)] σ Q) : p_X8_down d [aI x0, aI x1] σ Q := tk_entry (by decide) rfl (fun _ => Nat.le_of_ble_eq_true rfl) (fun _ => rfl) h
abbrev g_X8_draws (d pc : Nat) (vals : List (Nat × tk_V)) (σ : tk_S) (Q : tk_S → Prop) : Prop := tk_G RX8 cX8_draws 5 none d pc vals σ (tk_v Q)
set_option maxHeartbeats 4000000 in
set_option maxRecDepth 100000 in
theorem b_X8_draws_231 (d : Nat) (x1 : Int32) (x2 : Int32) (x3 : Int32) (σ : tk_S) (Q : tk_S → Prop) (h : vp_in x1 12 ∧ (((σ.1 137 (Int32.toNatClampNeg x1)) ≤ (x3 + 1) → Q σ) ∧ (¬ (σ.1 137 (Int32.toNatClampNeg x1)) ≤ (x3 + 1) → vp_in (x2 + x3) 96 ∧ (vp_in (x2 + x3) 96 ∧ (vp_in ((x2 + x3) + 1) 96 ∧ (vp_in (x2 + x3) 96 ∧ (vp_in ((x2 + x3) + 1) 96 ∧ (vp_in (x2 + x3) 96 ∧ (p_X8_steps d [aN 132, aI x1, aI (σ.1 138 (Int32.toNatClampNeg (x2 + x3))), aI (σ.1 139 (Int32.toNatClampNeg (x2 + x3))), aI ((σ.1 138 (Int32.toNatClampNeg ((x2 + x3) + 1))) - (σ.1 138 (Int32.toNatClampNeg (x2 + x3)))), aI ((σ.1 139 (Int32.toNatClampNeg ((x2 + x3) + 1))) - (σ.1 139 (Int32.toNatClampNeg (x2 + x3))))] σ (fun σ10 => g_X8_draws (d + 1) 231 [(0, aN 132), (1, aI x1), (2, aI x2), (3, aI (x3 + 1))] σ10 Q)))))))))) : g_X8_draws (d + 1) 231 [(0, aN 132), (1, aI x1), (2, aI x2), (3, aI x3)] σ Q := by
  intro p l e s m args below meth c D cy ad base H locs ls C w hl
  obtain ⟨hx, hb, hml, hown, hts, hr, hlk⟩ := id C
  have hl : lv_has ls 5 [(0, .ref (ad 132)), (1, .int x1), (2, .int x2), (3, .int x3)] := hl
  refine lv_iload_n hx hb dX8_draws_231 rfl (lv_at hl 3 rfl) ?_
  refine lv_iconst (v := 1) hx hb dX8_draws_232 (by decide) ?_
  refine lv_iadd hx hb dX8_draws_233 ?_
  refine lv_aload_n hx hb dX8_draws_234 rfl (lv_at hl 0 rfl) ?_
  refine tk_get (k := 132) (v := .ref (ad 137)) hx hb hts hown w rfl rfl inlX8 7 (by decide) mw_105 rfl dX8_draws_235 ?_
  refine lv_iload_n hx hb dX8_draws_238 rfl (lv_at hl 1 rfl) ?_
  obtain ⟨hi1, h⟩ := h
  refine tk_iald (k := 137) hx hb w rfl hi1 dX8_draws_239 ?_
  refine lv_icmp_ge (tgt := 308) hx hb dX8_draws_240 (by decide) (fun c2 => ?_) (fun c2 => ?_)
  · have h := h.1 c2
    exact tk_retv C w dX8_draws_308 h
  · have h := h.2 c2
    refine lv_aload_n hx hb dX8_draws_243 rfl (lv_at hl 0 rfl) ?_
    refine lv_iload_n hx hb dX8_draws_244 rfl (lv_at hl 1 rfl) ?_
    refine lv_aload_n hx hb dX8_draws_245 rfl (lv_at hl 0 rfl) ?_
    refine tk_get (k := 132) (v := .ref (ad 138)) hx hb hts hown w rfl rfl inlX8 8 (by decide) mw_106 rfl dX8_draws_246 ?_
    refine lv_iload_n hx hb dX8_draws_249 rfl (lv_at hl 2 rfl) ?_
    refine lv_iload_n hx hb dX8_draws_250 rfl (lv_at hl 3 rfl) ?_
    refine lv_iadd hx hb dX8_draws_251 ?_
    obtain ⟨hi3, h⟩ := h
    refine tk_iald (k := 138) hx hb w rfl hi3 dX8_draws_252 ?_
    refine lv_aload_n hx hb dX8_draws_253 rfl (lv_at hl 0 rfl) ?_
    refine tk_get (k := 132) (v := .ref (ad 139)) hx hb hts hown w rfl rfl inlX8 9 (by decide) mw_107 rfl dX8_draws_254 ?_
    refine lv_iload_n hx hb dX8_draws_257 rfl (lv_at hl 2 rfl) ?_
    refine lv_iload_n hx hb dX8_draws_258 rfl (lv_at hl 3 rfl) ?_
    refine lv_iadd hx hb dX8_draws_259 ?_
    obtain ⟨hi4, h⟩ := h
    refine tk_iald (k := 139) hx hb w rfl hi4 dX8_draws_260 ?_
    refine lv_aload_n hx hb dX8_draws_261 rfl (lv_at hl 0 rfl) ?_
    refine tk_get (k := 132) (v := .ref (ad 138)) hx hb hts hown w rfl rfl inlX8 8 (by decide) mw_106 rfl dX8_draws_262 ?_
    refine lv_iload_n hx hb dX8_draws_265 rfl (lv_at hl 2 rfl) ?_
    refine lv_iload_n hx hb dX8_draws_266 rfl (lv_at hl 3 rfl) ?_
    refine lv_iadd hx hb dX8_draws_267 ?_
    refine lv_iconst (v := 1) hx hb dX8_draws_268 (by decide) ?_
    refine lv_iadd hx hb dX8_draws_269 ?_
    obtain ⟨hi5, h⟩ := h
    refine tk_iald (k := 138) hx hb w rfl hi5 dX8_draws_270 ?_
    refine lv_aload_n hx hb dX8_draws_271 rfl (lv_at hl 0 rfl) ?_
    refine tk_get (k := 132) (v := .ref (ad 138)) hx hb hts hown w rfl rfl inlX8 8 (by decide) mw_106 rfl dX8_draws_272 ?_
    refine lv_iload_n hx hb dX8_draws_275 rfl (lv_at hl 2 rfl) ?_
    refine lv_iload_n hx hb dX8_draws_276 rfl (lv_at hl 3 rfl) ?_
    refine lv_iadd hx hb dX8_draws_277 ?_
    obtain ⟨hi6, h⟩ := h
    refine tk_iald (k := 138) hx hb w rfl hi6 dX8_draws_278 ?_
    refine lv_isub hx hb dX8_draws_279 ?_
    refine lv_aload_n hx hb dX8_draws_280 rfl (lv_at hl 0 rfl) ?_
    refine tk_get (k := 132) (v := .ref (ad 139)) hx hb hts hown w rfl rfl inlX8 9 (by decide) mw_107 rfl dX8_draws_281 ?_
    refine lv_iload_n hx hb dX8_draws_284 rfl (lv_at hl 2 rfl) ?_
    refine lv_iload_n hx hb dX8_draws_285 rfl (lv_at hl 3 rfl) ?_
    refine lv_iadd hx hb dX8_draws_286 ?_
    refine lv_iconst (v := 1) hx hb dX8_draws_287 (by decide) ?_
    refine lv_iadd hx hb dX8_draws_288 ?_
    obtain ⟨hi7, h⟩ := h
    refine tk_iald (k := 139) hx hb w rfl hi7 dX8_draws_289 ?_
    refine lv_aload_n hx hb dX8_draws_290 rfl (lv_at hl 0 rfl) ?_
    refine tk_get (k := 132) (v := .ref (ad 139)) hx hb hts hown w rfl rfl inlX8 9 (by decide) mw_107 rfl dX8_draws_291 ?_
    refine lv_iload_n hx hb dX8_draws_294 rfl (lv_at hl 2 rfl) ?_
    refine lv_iload_n hx hb dX8_draws_295 rfl (lv_at hl 3 rfl) ?_
    refine lv_iadd hx hb dX8_draws_296 ?_
    obtain ⟨hi8, h⟩ := h
    refine tk_iald (k := 139) hx hb w rfl hi8 dX8_draws_297 ?_
    refine lv_isub hx hb dX8_draws_298 ?_
    refine tk_cV C w (k := 132) rfl rfl (as := [aI x1, aI (σ.1 138 (Int32.toNatClampNeg (x2 + x3))), aI (σ.1 139 (Int32.toNatClampNeg (x2 + x3))), aI ((σ.1 138 (Int32.toNatClampNeg ((x2 + x3) + 1))) - (σ.1 138 (Int32.toNatClampNeg (x2 + x3)))), aI ((σ.1 139 (Int32.toNatClampNeg ((x2 + x3) + 1))) - (σ.1 139 (Int32.toNatClampNeg (x2 + x3))))]) (rest := []) mw_260 mw_5 mw_257 mw_258 mw_259 hd_X8_steps (by decide) hl.1 (Nat.le_of_ble_eq_true rfl) rfl dX8_draws_299 h (fun r9 σ10 H locs hq w => ?_)
    obtain ⟨rfl, h⟩ := hq
    refine W.eq (g2 := F0 m 302 ls []) rfl ?_
    refine lv_iinc (v := x3 + 1) (lv' := [(3, .int (x3 + 1)), (0, .ref (ad 132)), (1, .int x1), (2, .int x2)]) hx hb dX8_draws_302 hl (k := 3) rfl rfl (by decide) rfl (fun ls hl => ?_)
    refine lv_goto (tgt := 231) hx hb dX8_draws_305 (by decide) ?_
    exact h _ _ _ _ _ _ _ _ _ _ _ _ _ _ _ _ C w (lv_sub hl [1, 2, 3, 0] rfl)
set_option maxHeartbeats 4000000 in
set_option maxRecDepth 100000 in
theorem b_X8_draws_176 (d : Nat) (x1 : Int32) (x2 : Int32) (x3 : Int32) (x4 : Int32) (σ : tk_S) (Q : tk_S → Prop) (h : vp_in (x2 + 1) 96 ∧ (((σ.1 138 (Int32.toNatClampNeg (x2 + 1))) < x4 → g_X8_draws (d + 1) 156 [(0, aN 132), (1, aI x1), (2, aI x2), (3, aI (x3 + 1))] σ Q) ∧ (¬ (σ.1 138 (Int32.toNatClampNeg (x2 + 1))) < x4 → p_X8_puts d [aN 132, aI x1, aI x4, aI x3] σ (fun σ4 => g_X8_draws (d + 1) 176 [(0, aN 132), (1, aI x1), (2, aI x2), (3, aI x3), (4, aI (x4 + 1))] σ4 Q)))) : g_X8_draws (d + 1) 176 [(0, aN 132), (1, aI x1), (2, aI x2), (3, aI x3), (4, aI x4)] σ Q := by
  intro p l e s m args below meth c D cy ad base H locs ls C w hl
  obtain ⟨hx, hb, hml, hown, hts, hr, hlk⟩ := id C
  have hl : lv_has ls 5 [(0, .ref (ad 132)), (1, .int x1), (2, .int x2), (3, .int x3), (4, .int x4)] := hl
  refine lv_iload hx hb dX8_draws_176 (lv_at hl 4 rfl) ?_
  refine lv_aload_n hx hb dX8_draws_178 rfl (lv_at hl 0 rfl) ?_
  refine tk_get (k := 132) (v := .ref (ad 138)) hx hb hts hown w rfl rfl inlX8 8 (by decide) mw_106 rfl dX8_draws_179 ?_
  refine lv_iload_n hx hb dX8_draws_182 rfl (lv_at hl 2 rfl) ?_
  refine lv_iconst (v := 1) hx hb dX8_draws_183 (by decide) ?_
  refine lv_iadd hx hb dX8_draws_184 ?_
  obtain ⟨hi1, h⟩ := h
  refine tk_iald (k := 138) hx hb w rfl hi1 dX8_draws_185 ?_
  refine lv_icmp_gt (tgt := 203) hx hb dX8_draws_186 (by decide) (fun c2 => ?_) (fun c2 => ?_)
  · have h := h.1 c2
    refine lv_iinc (v := x3 + 1) (lv' := [(3, .int (x3 + 1)), (0, .ref (ad 132)), (1, .int x1), (2, .int x2), (4, .int x4)]) hx hb dX8_draws_203 hl (k := 3) rfl rfl (by decide) rfl (fun ls hl => ?_)
    refine lv_goto (tgt := 156) hx hb dX8_draws_206 (by decide) ?_
    exact h _ _ _ _ _ _ _ _ _ _ _ _ _ _ _ _ C w (lv_sub hl [1, 2, 3, 0] rfl)
  · have h := h.2 c2
    refine lv_aload_n hx hb dX8_draws_189 rfl (lv_at hl 0 rfl) ?_
    refine lv_iload_n hx hb dX8_draws_190 rfl (lv_at hl 1 rfl) ?_
    refine lv_iload hx hb dX8_draws_191 (lv_at hl 4 rfl) ?_
    refine lv_iload_n hx hb dX8_draws_193 rfl (lv_at hl 3 rfl) ?_
    refine tk_cV C w (k := 132) rfl rfl (as := [aI x1, aI x4, aI x3]) (rest := []) mw_256 mw_5 mw_253 mw_254 mw_255 hd_X8_puts (by decide) hl.1 (Nat.le_of_ble_eq_true rfl) rfl dX8_draws_194 h (fun r3 σ4 H locs hq w => ?_)
    obtain ⟨rfl, h⟩ := hq
    refine W.eq (g2 := F0 m 197 ls []) rfl ?_
    refine lv_iinc (v := x4 + 1) (lv' := [(4, .int (x4 + 1)), (0, .ref (ad 132)), (1, .int x1), (2, .int x2), (3, .int x3)]) hx hb dX8_draws_197 hl (k := 4) rfl rfl (by decide) rfl (fun ls hl => ?_)
    refine lv_goto (tgt := 176) hx hb dX8_draws_200 (by decide) ?_
    exact h _ _ _ _ _ _ _ _ _ _ _ _ _ _ _ _ C w (lv_sub hl [1, 2, 3, 4, 0] rfl)
set_option maxHeartbeats 4000000 in
set_option maxRecDepth 100000 in
theorem b_X8_draws_156 (d : Nat) (x1 : Int32) (x2 : Int32) (x3 : Int32) (σ : tk_S) (Q : tk_S → Prop) (h : vp_in (x2 + 1) 96 ∧ (((σ.1 139 (Int32.toNatClampNeg (x2 + 1))) < x3 → Q σ) ∧ (¬ (σ.1 139 (Int32.toNatClampNeg (x2 + 1))) < x3 → vp_in x2 96 ∧ (∀ z4 : Int32, z4 = σ.1 138 (Int32.toNatClampNeg x2) → (g_X8_draws (d + 1) 176 [(0, aN 132), (1, aI x1), (2, aI x2), (3, aI x3), (4, aI z4)] σ Q))))) : g_X8_draws (d + 1) 156 [(0, aN 132), (1, aI x1), (2, aI x2), (3, aI x3)] σ Q := by
  intro p l e s m args below meth c D cy ad base H locs ls C w hl
  obtain ⟨hx, hb, hml, hown, hts, hr, hlk⟩ := id C
  have hl : lv_has ls 5 [(0, .ref (ad 132)), (1, .int x1), (2, .int x2), (3, .int x3)] := hl
  refine lv_iload_n hx hb dX8_draws_156 rfl (lv_at hl 3 rfl) ?_
  refine lv_aload_n hx hb dX8_draws_157 rfl (lv_at hl 0 rfl) ?_
  refine tk_get (k := 132) (v := .ref (ad 139)) hx hb hts hown w rfl rfl inlX8 9 (by decide) mw_107 rfl dX8_draws_158 ?_
  refine lv_iload_n hx hb dX8_draws_161 rfl (lv_at hl 2 rfl) ?_
  refine lv_iconst (v := 1) hx hb dX8_draws_162 (by decide) ?_
  refine lv_iadd hx hb dX8_draws_163 ?_
  obtain ⟨hi1, h⟩ := h
  refine tk_iald (k := 139) hx hb w rfl hi1 dX8_draws_164 ?_
  refine lv_icmp_gt (tgt := 209) hx hb dX8_draws_165 (by decide) (fun c2 => ?_) (fun c2 => ?_)
  · have h := h.1 c2
    refine lv_goto (tgt := 308) hx hb dX8_draws_209 (by decide) ?_
    exact tk_retv C w dX8_draws_308 h
  · have h := h.2 c2
    refine lv_aload_n hx hb dX8_draws_168 rfl (lv_at hl 0 rfl) ?_
    refine tk_get (k := 132) (v := .ref (ad 138)) hx hb hts hown w rfl rfl inlX8 8 (by decide) mw_106 rfl dX8_draws_169 ?_
    refine lv_iload_n hx hb dX8_draws_172 rfl (lv_at hl 2 rfl) ?_
    obtain ⟨hi3, h⟩ := h
    refine tk_iald (k := 138) hx hb w rfl hi3 dX8_draws_173 ?_
    refine lv_topi (fun z4 e_z4 => ?_)
    have h := h z4 e_z4
    refine lv_istore (lv' := [(4, .int z4), (0, .ref (ad 132)), (1, .int x1), (2, .int x2), (3, .int x3)]) hx hb dX8_draws_174 hl (by decide) rfl (fun ls hl => ?_)
    exact h _ _ _ _ _ _ _ _ _ _ _ _ _ _ _ _ C w (lv_sub hl [1, 2, 3, 4, 0] rfl)
set_option maxHeartbeats 4000000 in
set_option maxRecDepth 100000 in
theorem b_X8_draws_2 (d : Nat) (x1 : Int32) (x2 : Int32) (σ : tk_S) (Q : tk_S → Prop) (h : (576 ≤ x2 → ∀ z2 : Int32, z2 = 8 * x1 → (vp_in x1 12 ∧ ((¬ (σ.1 135 (Int32.toNatClampNeg x1)) = 2 → vp_in x1 12 ∧ ((¬ (σ.1 135 (Int32.toNatClampNeg x1)) = 1 → vp_in z2 96 ∧ (vp_in z2 96 ∧ (p_X8_puts d [aN 132, aI x1, aI (σ.1 138 (Int32.toNatClampNeg z2)), aI (σ.1 139 (Int32.toNatClampNeg z2))] σ (fun σ10 => g_X8_draws (d + 1) 231 [(0, aN 132), (1, aI x1), (2, aI z2), (3, aI 0)] σ10 Q)))) ∧ ((σ.1 135 (Int32.toNatClampNeg x1)) = 1 → vp_in z2 96 ∧ (∀ z12 : Int32, z12 = σ.1 139 (Int32.toNatClampNeg z2) → (g_X8_draws (d + 1) 156 [(0, aN 132), (1, aI x1), (2, aI z2), (3, aI z12)] σ Q))))) ∧ ((σ.1 135 (Int32.toNatClampNeg x1)) = 2 → vp_in z2 96 ∧ (vp_in z2 96 ∧ (p_X8_puts d [aN 132, aI x1, aI (σ.1 138 (Int32.toNatClampNeg z2)), aI (σ.1 139 (Int32.toNatClampNeg z2))] σ (fun σ16 => vp_in z2 96 ∧ (vp_in z2 96 ∧ (p_X8_puts d [aN 132, aI x1, aI ((σ16.1 138 (Int32.toNatClampNeg z2)) + 1), aI (σ16.1 139 (Int32.toNatClampNeg z2))] σ16 (fun σ20 => vp_in z2 96 ∧ (vp_in z2 96 ∧ (p_X8_puts d [aN 132, aI x1, aI ((σ20.1 138 (Int32.toNatClampNeg z2)) - 1), aI (σ20.1 139 (Int32.toNatClampNeg z2))] σ20 (fun σ24 => vp_in z2 96 ∧ (vp_in z2 96 ∧ (p_X8_puts d [aN 132, aI x1, aI (σ24.1 138 (Int32.toNatClampNeg z2)), aI ((σ24.1 139 (Int32.toNatClampNeg z2)) + 1)] σ24 (fun σ28 => vp_in z2 96 ∧ (vp_in z2 96 ∧ (p_X8_puts d [aN 132, aI x1, aI (σ28.1 138 (Int32.toNatClampNeg z2)), aI ((σ28.1 139 (Int32.toNatClampNeg z2)) - 1)] σ28 (fun σ32 => Q σ32))))))))))))))))))) ∧ (¬ 576 ≤ x2 → vp_in ((576 * x1) + x2) 6912 ∧ (g_X8_draws (d + 1) 2 [(0, aN 132), (1, aI x1), (2, aI (x2 + 1))] (tk_up σ 140 (Int32.toNatClampNeg ((576 * x1) + x2)) 0) Q))) : g_X8_draws (d + 1) 2 [(0, aN 132), (1, aI x1), (2, aI x2)] σ Q := by
  intro p l e s m args below meth c D cy ad base H locs ls C w hl
  obtain ⟨hx, hb, hml, hown, hts, hr, hlk⟩ := id C
  have hl : lv_has ls 5 [(0, .ref (ad 132)), (1, .int x1), (2, .int x2)] := hl
  refine lv_iload_n hx hb dX8_draws_2 rfl (lv_at hl 2 rfl) ?_
  refine lv_sipush (v := 576) hx hb dX8_draws_3 (by decide) ?_
  refine lv_icmp_ge (tgt := 28) hx hb dX8_draws_6 (by decide) (fun c1 => ?_) (fun c1 => ?_)
  · have h := h.1 c1
    refine lv_bipush (v := 8) hx hb dX8_draws_28 (by decide) ?_
    refine lv_iload_n hx hb dX8_draws_30 rfl (lv_at hl 1 rfl) ?_
    refine lv_imul hx hb dX8_draws_31 ?_
    refine lv_topi (fun z2 e_z2 => ?_)
    have h := h z2 e_z2
    refine lv_istore_n (lv' := [(2, .int z2), (0, .ref (ad 132)), (1, .int x1)]) hx hb dX8_draws_32 rfl hl (by decide) rfl (fun ls hl => ?_)
    refine lv_aload_n hx hb dX8_draws_33 rfl (lv_at hl 1 rfl) ?_
    refine tk_get (k := 132) (v := .ref (ad 135)) hx hb hts hown w rfl rfl inlX8 5 (by decide) mw_103 rfl dX8_draws_34 ?_
    refine lv_iload_n hx hb dX8_draws_37 rfl (lv_at hl 2 rfl) ?_
    obtain ⟨hi3, h⟩ := h
    refine tk_iald (k := 135) hx hb w rfl hi3 dX8_draws_38 ?_
    refine lv_iconst (v := 2) hx hb dX8_draws_39 (by decide) ?_
    refine lv_icmp_ne (tgt := 139) hx hb dX8_draws_40 (by decide) (fun c4 => ?_) (fun c4 => ?_)
    · have h := h.1 c4
      refine lv_aload_n hx hb dX8_draws_139 rfl (lv_at hl 1 rfl) ?_
      refine tk_get (k := 132) (v := .ref (ad 135)) hx hb hts hown w rfl rfl inlX8 5 (by decide) mw_103 rfl dX8_draws_140 ?_
      refine lv_iload_n hx hb dX8_draws_143 rfl (lv_at hl 2 rfl) ?_
      obtain ⟨hi5, h⟩ := h
      refine tk_iald (k := 135) hx hb w rfl hi5 dX8_draws_144 ?_
      refine lv_iconst (v := 1) hx hb dX8_draws_145 (by decide) ?_
      refine lv_icmp_ne (tgt := 212) hx hb dX8_draws_146 (by decide) (fun c6 => ?_) (fun c6 => ?_)
      · have h := h.1 c6
        refine lv_aload_n hx hb dX8_draws_212 rfl (lv_at hl 1 rfl) ?_
        refine lv_iload_n hx hb dX8_draws_213 rfl (lv_at hl 2 rfl) ?_
        refine lv_aload_n hx hb dX8_draws_214 rfl (lv_at hl 1 rfl) ?_
        refine tk_get (k := 132) (v := .ref (ad 138)) hx hb hts hown w rfl rfl inlX8 8 (by decide) mw_106 rfl dX8_draws_215 ?_
        refine lv_iload_n hx hb dX8_draws_218 rfl (lv_at hl 0 rfl) ?_
        obtain ⟨hi7, h⟩ := h
        refine tk_iald (k := 138) hx hb w rfl hi7 dX8_draws_219 ?_
        refine lv_aload_n hx hb dX8_draws_220 rfl (lv_at hl 1 rfl) ?_
        refine tk_get (k := 132) (v := .ref (ad 139)) hx hb hts hown w rfl rfl inlX8 9 (by decide) mw_107 rfl dX8_draws_221 ?_
        refine lv_iload_n hx hb dX8_draws_224 rfl (lv_at hl 0 rfl) ?_
        obtain ⟨hi8, h⟩ := h
        refine tk_iald (k := 139) hx hb w rfl hi8 dX8_draws_225 ?_
        refine tk_cV C w (k := 132) rfl rfl (as := [aI x1, aI (σ.1 138 (Int32.toNatClampNeg z2)), aI (σ.1 139 (Int32.toNatClampNeg z2))]) (rest := []) mw_256 mw_5 mw_253 mw_254 mw_255 hd_X8_puts (by decide) hl.1 (Nat.le_of_ble_eq_true rfl) rfl dX8_draws_226 h (fun r9 σ10 H locs hq w => ?_)
        obtain ⟨rfl, h⟩ := hq
        refine W.eq (g2 := F0 m 229 ls []) rfl ?_
        refine lv_iconst (v := 0) hx hb dX8_draws_229 (by decide) ?_
        refine lv_istore_n (lv' := [(3, .int 0), (2, .int z2), (0, .ref (ad 132)), (1, .int x1)]) hx hb dX8_draws_230 rfl hl (by decide) rfl (fun ls hl => ?_)
        exact h _ _ _ _ _ _ _ _ _ _ _ _ _ _ _ _ C w (lv_sub hl [2, 3, 1, 0] rfl)
      · have h := h.2 c6
        refine lv_aload_n hx hb dX8_draws_149 rfl (lv_at hl 1 rfl) ?_
        refine tk_get (k := 132) (v := .ref (ad 139)) hx hb hts hown w rfl rfl inlX8 9 (by decide) mw_107 rfl dX8_draws_150 ?_
        refine lv_iload_n hx hb dX8_draws_153 rfl (lv_at hl 0 rfl) ?_
        obtain ⟨hi11, h⟩ := h
        refine tk_iald (k := 139) hx hb w rfl hi11 dX8_draws_154 ?_
        refine lv_topi (fun z12 e_z12 => ?_)
        have h := h z12 e_z12
        refine lv_istore_n (lv' := [(3, .int z12), (2, .int z2), (0, .ref (ad 132)), (1, .int x1)]) hx hb dX8_draws_155 rfl hl (by decide) rfl (fun ls hl => ?_)
        exact h _ _ _ _ _ _ _ _ _ _ _ _ _ _ _ _ C w (lv_sub hl [2, 3, 1, 0] rfl)
    · have h := h.2 c4
      refine lv_aload_n hx hb dX8_draws_43 rfl (lv_at hl 1 rfl) ?_
      refine lv_iload_n hx hb dX8_draws_44 rfl (lv_at hl 2 rfl) ?_
      refine lv_aload_n hx hb dX8_draws_45 rfl (lv_at hl 1 rfl) ?_
      refine tk_get (k := 132) (v := .ref (ad 138)) hx hb hts hown w rfl rfl inlX8 8 (by decide) mw_106 rfl dX8_draws_46 ?_
      refine lv_iload_n hx hb dX8_draws_49 rfl (lv_at hl 0 rfl) ?_
      obtain ⟨hi13, h⟩ := h
      refine tk_iald (k := 138) hx hb w rfl hi13 dX8_draws_50 ?_
      refine lv_aload_n hx hb dX8_draws_51 rfl (lv_at hl 1 rfl) ?_
      refine tk_get (k := 132) (v := .ref (ad 139)) hx hb hts hown w rfl rfl inlX8 9 (by decide) mw_107 rfl dX8_draws_52 ?_
      refine lv_iload_n hx hb dX8_draws_55 rfl (lv_at hl 0 rfl) ?_
      obtain ⟨hi14, h⟩ := h
      refine tk_iald (k := 139) hx hb w rfl hi14 dX8_draws_56 ?_
      refine tk_cV C w (k := 132) rfl rfl (as := [aI x1, aI (σ.1 138 (Int32.toNatClampNeg z2)), aI (σ.1 139 (Int32.toNatClampNeg z2))]) (rest := []) mw_256 mw_5 mw_253 mw_254 mw_255 hd_X8_puts (by decide) hl.1 (Nat.le_of_ble_eq_true rfl) rfl dX8_draws_57 h (fun r15 σ16 H locs hq w => ?_)
      obtain ⟨rfl, h⟩ := hq
      refine W.eq (g2 := F0 m 60 ls []) rfl ?_
      refine lv_aload_n hx hb dX8_draws_60 rfl (lv_at hl 1 rfl) ?_
      refine lv_iload_n hx hb dX8_draws_61 rfl (lv_at hl 2 rfl) ?_
      refine lv_aload_n hx hb dX8_draws_62 rfl (lv_at hl 1 rfl) ?_
      refine tk_get (k := 132) (v := .ref (ad 138)) hx hb hts hown w rfl rfl inlX8 8 (by decide) mw_106 rfl dX8_draws_63 ?_
      refine lv_iload_n hx hb dX8_draws_66 rfl (lv_at hl 0 rfl) ?_
      obtain ⟨hi17, h⟩ := h
      refine tk_iald (k := 138) hx hb w rfl hi17 dX8_draws_67 ?_
      refine lv_iconst (v := 1) hx hb dX8_draws_68 (by decide) ?_
      refine lv_iadd hx hb dX8_draws_69 ?_
      refine lv_aload_n hx hb dX8_draws_70 rfl (lv_at hl 1 rfl) ?_
      refine tk_get (k := 132) (v := .ref (ad 139)) hx hb hts hown w rfl rfl inlX8 9 (by decide) mw_107 rfl dX8_draws_71 ?_
      refine lv_iload_n hx hb dX8_draws_74 rfl (lv_at hl 0 rfl) ?_
      obtain ⟨hi18, h⟩ := h
      refine tk_iald (k := 139) hx hb w rfl hi18 dX8_draws_75 ?_
      refine tk_cV C w (k := 132) rfl rfl (as := [aI x1, aI ((σ16.1 138 (Int32.toNatClampNeg z2)) + 1), aI (σ16.1 139 (Int32.toNatClampNeg z2))]) (rest := []) mw_256 mw_5 mw_253 mw_254 mw_255 hd_X8_puts (by decide) hl.1 (Nat.le_of_ble_eq_true rfl) rfl dX8_draws_76 h (fun r19 σ20 H locs hq w => ?_)
      obtain ⟨rfl, h⟩ := hq
      refine W.eq (g2 := F0 m 79 ls []) rfl ?_
      refine lv_aload_n hx hb dX8_draws_79 rfl (lv_at hl 1 rfl) ?_
      refine lv_iload_n hx hb dX8_draws_80 rfl (lv_at hl 2 rfl) ?_
      refine lv_aload_n hx hb dX8_draws_81 rfl (lv_at hl 1 rfl) ?_
      refine tk_get (k := 132) (v := .ref (ad 138)) hx hb hts hown w rfl rfl inlX8 8 (by decide) mw_106 rfl dX8_draws_82 ?_
      refine lv_iload_n hx hb dX8_draws_85 rfl (lv_at hl 0 rfl) ?_
      obtain ⟨hi21, h⟩ := h
      refine tk_iald (k := 138) hx hb w rfl hi21 dX8_draws_86 ?_
      refine lv_iconst (v := 1) hx hb dX8_draws_87 (by decide) ?_
      refine lv_isub hx hb dX8_draws_88 ?_
      refine lv_aload_n hx hb dX8_draws_89 rfl (lv_at hl 1 rfl) ?_
      refine tk_get (k := 132) (v := .ref (ad 139)) hx hb hts hown w rfl rfl inlX8 9 (by decide) mw_107 rfl dX8_draws_90 ?_
      refine lv_iload_n hx hb dX8_draws_93 rfl (lv_at hl 0 rfl) ?_
      obtain ⟨hi22, h⟩ := h
      refine tk_iald (k := 139) hx hb w rfl hi22 dX8_draws_94 ?_
      refine tk_cV C w (k := 132) rfl rfl (as := [aI x1, aI ((σ20.1 138 (Int32.toNatClampNeg z2)) - 1), aI (σ20.1 139 (Int32.toNatClampNeg z2))]) (rest := []) mw_256 mw_5 mw_253 mw_254 mw_255 hd_X8_puts (by decide) hl.1 (Nat.le_of_ble_eq_true rfl) rfl dX8_draws_95 h (fun r23 σ24 H locs hq w => ?_)
      obtain ⟨rfl, h⟩ := hq
      refine W.eq (g2 := F0 m 98 ls []) rfl ?_
      refine lv_aload_n hx hb dX8_draws_98 rfl (lv_at hl 1 rfl) ?_
      refine lv_iload_n hx hb dX8_draws_99 rfl (lv_at hl 2 rfl) ?_
      refine lv_aload_n hx hb dX8_draws_100 rfl (lv_at hl 1 rfl) ?_
      refine tk_get (k := 132) (v := .ref (ad 138)) hx hb hts hown w rfl rfl inlX8 8 (by decide) mw_106 rfl dX8_draws_101 ?_
      refine lv_iload_n hx hb dX8_draws_104 rfl (lv_at hl 0 rfl) ?_
      obtain ⟨hi25, h⟩ := h
      refine tk_iald (k := 138) hx hb w rfl hi25 dX8_draws_105 ?_
      refine lv_aload_n hx hb dX8_draws_106 rfl (lv_at hl 1 rfl) ?_
      refine tk_get (k := 132) (v := .ref (ad 139)) hx hb hts hown w rfl rfl inlX8 9 (by decide) mw_107 rfl dX8_draws_107 ?_
      refine lv_iload_n hx hb dX8_draws_110 rfl (lv_at hl 0 rfl) ?_
      obtain ⟨hi26, h⟩ := h
      refine tk_iald (k := 139) hx hb w rfl hi26 dX8_draws_111 ?_
      refine lv_iconst (v := 1) hx hb dX8_draws_112 (by decide) ?_
      refine lv_iadd hx hb dX8_draws_113 ?_
      refine tk_cV C w (k := 132) rfl rfl (as := [aI x1, aI (σ24.1 138 (Int32.toNatClampNeg z2)), aI ((σ24.1 139 (Int32.toNatClampNeg z2)) + 1)]) (rest := []) mw_256 mw_5 mw_253 mw_254 mw_255 hd_X8_puts (by decide) hl.1 (Nat.le_of_ble_eq_true rfl) rfl dX8_draws_114 h (fun r27 σ28 H locs hq w => ?_)
      obtain ⟨rfl, h⟩ := hq
      refine W.eq (g2 := F0 m 117 ls []) rfl ?_
      refine lv_aload_n hx hb dX8_draws_117 rfl (lv_at hl 1 rfl) ?_
      refine lv_iload_n hx hb dX8_draws_118 rfl (lv_at hl 2 rfl) ?_
      refine lv_aload_n hx hb dX8_draws_119 rfl (lv_at hl 1 rfl) ?_
      refine tk_get (k := 132) (v := .ref (ad 138)) hx hb hts hown w rfl rfl inlX8 8 (by decide) mw_106 rfl dX8_draws_120 ?_
      refine lv_iload_n hx hb dX8_draws_123 rfl (lv_at hl 0 rfl) ?_
      obtain ⟨hi29, h⟩ := h
      refine tk_iald (k := 138) hx hb w rfl hi29 dX8_draws_124 ?_
      refine lv_aload_n hx hb dX8_draws_125 rfl (lv_at hl 1 rfl) ?_
      refine tk_get (k := 132) (v := .ref (ad 139)) hx hb hts hown w rfl rfl inlX8 9 (by decide) mw_107 rfl dX8_draws_126 ?_
      refine lv_iload_n hx hb dX8_draws_129 rfl (lv_at hl 0 rfl) ?_
      obtain ⟨hi30, h⟩ := h
      refine tk_iald (k := 139) hx hb w rfl hi30 dX8_draws_130 ?_
      refine lv_iconst (v := 1) hx hb dX8_draws_131 (by decide) ?_
      refine lv_isub hx hb dX8_draws_132 ?_
      refine tk_cV C w (k := 132) rfl rfl (as := [aI x1, aI (σ28.1 138 (Int32.toNatClampNeg z2)), aI ((σ28.1 139 (Int32.toNatClampNeg z2)) - 1)]) (rest := []) mw_256 mw_5 mw_253 mw_254 mw_255 hd_X8_puts (by decide) hl.1 (Nat.le_of_ble_eq_true rfl) rfl dX8_draws_133 h (fun r31 σ32 H locs hq w => ?_)
      obtain ⟨rfl, h⟩ := hq
      refine W.eq (g2 := F0 m 136 ls []) rfl ?_
      refine lv_goto (tgt := 308) hx hb dX8_draws_136 (by decide) ?_
      exact tk_retv C w dX8_draws_308 h
  · have h := h.2 c1
    refine lv_aload_n hx hb dX8_draws_9 rfl (lv_at hl 0 rfl) ?_
    refine tk_get (k := 132) (v := .ref (ad 140)) hx hb hts hown w rfl rfl inlX8 10 (by decide) mw_109 rfl dX8_draws_10 ?_
    refine lv_sipush (v := 576) hx hb dX8_draws_13 (by decide) ?_
    refine lv_iload_n hx hb dX8_draws_16 rfl (lv_at hl 1 rfl) ?_
    refine lv_imul hx hb dX8_draws_17 ?_
    refine lv_iload_n hx hb dX8_draws_18 rfl (lv_at hl 2 rfl) ?_
    refine lv_iadd hx hb dX8_draws_19 ?_
    refine lv_iconst (v := 0) hx hb dX8_draws_20 (by decide) ?_
    obtain ⟨hi33, h⟩ := h
    refine tk_zast (k := 140) hx hb w rfl hi33 rfl dX8_draws_21 (fun H locs w => ?_)
    refine lv_iinc (v := x2 + 1) (lv' := [(2, .int (x2 + 1)), (0, .ref (ad 132)), (1, .int x1)]) hx hb dX8_draws_22 hl (k := 2) rfl rfl (by decide) rfl (fun ls hl => ?_)
    refine lv_goto (tgt := 2) hx hb dX8_draws_25 (by decide) ?_
    exact h _ _ _ _ _ _ _ _ _ _ _ _ _ _ _ _ C w (lv_sub hl [1, 2, 0] rfl)
set_option maxHeartbeats 4000000 in
set_option maxRecDepth 100000 in
theorem b_X8_draws_0 (d : Nat) (x1 : Int32) (σ : tk_S) (Q : tk_S → Prop) (h : g_X8_draws (d + 1) 2 [(0, aN 132), (1, aI x1), (2, aI 0)] σ Q) : g_X8_draws (d + 1) 0 [(0, aN 132), (1, aI x1)] σ Q := by
  intro p l e s m args below meth c D cy ad base H locs ls C w hl
  obtain ⟨hx, hb, hml, hown, hts, hr, hlk⟩ := id C
  have hl : lv_has ls 5 [(0, .ref (ad 132)), (1, .int x1)] := hl
  refine lv_iconst (v := 0) hx hb dX8_draws_0 (by decide) ?_
  refine lv_istore_n (lv' := [(2, .int 0), (0, .ref (ad 132)), (1, .int x1)]) hx hb dX8_draws_1 rfl hl (by decide) rfl (fun ls hl => ?_)
  exact h _ _ _ _ _ _ _ _ _ _ _ _ _ _ _ _ C w (lv_sub hl [1, 2, 0] rfl)
theorem e_X8_draws (d : Nat) (x1 : Int32) {σ : tk_S} {Q : tk_S → Prop} (h : g_X8_draws d 0 [(0, aN 132), (1, aI x1)] σ Q) : p_X8_draws d [aN 132, aI x1] σ Q := tk_entry (by decide) rfl (fun _ => Nat.le_of_ble_eq_true rfl) (fun _ => rfl) h
abbrev g_X8_steps (d pc : Nat) (vals : List (Nat × tk_V)) (σ : tk_S) (Q : tk_S → Prop) : Prop := tk_G RX8 cX8_steps 8 none d pc vals σ (tk_v Q)
set_option maxHeartbeats 4000000 in
set_option maxRecDepth 100000 in
theorem b_X8_steps_31 (d : Nat) (x1 : Int32) (x2 : Int32) (x3 : Int32) (x4 : Int32) (x5 : Int32) (x6 : Int32) (x7 : Int32) (σ : tk_S) (Q : tk_S → Prop) (h : (x6 < x7 → Q σ) ∧ (¬ x6 < x7 → (x6 ≤ 0 → Q σ) ∧ (¬ x6 ≤ 0 → p_X8_down d [aI (((2 * x7) * x4) + x6), aI (2 * x6)] σ (fun y5 σ4 => p_X8_down d [aI (((2 * x7) * x5) + x6), aI (2 * x6)] σ4 (fun y8 σ7 => p_X8_puts d [aN 132, aI x1, aI (x2 + y5), aI (x3 + y8)] σ7 (fun σ10 => g_X8_steps (d + 1) 31 [(0, aN 132), (1, aI x1), (2, aI x2), (3, aI x3), (4, aI x4), (5, aI x5), (6, aI x6), (7, aI (x7 + 1))] σ10 Q)))))) : g_X8_steps (d + 1) 31 [(0, aN 132), (1, aI x1), (2, aI x2), (3, aI x3), (4, aI x4), (5, aI x5), (6, aI x6), (7, aI x7)] σ Q := by
  intro p l e s m args below meth c D cy ad base H locs ls C w hl
  obtain ⟨hx, hb, hml, hown, hts, hr, hlk⟩ := id C
  have hl : lv_has ls 8 [(0, .ref (ad 132)), (1, .int x1), (2, .int x2), (3, .int x3), (4, .int x4), (5, .int x5), (6, .int x6), (7, .int x7)] := hl
  refine lv_iload hx hb dX8_steps_31 (lv_at hl 7 rfl) ?_
  refine lv_iload hx hb dX8_steps_33 (lv_at hl 6 rfl) ?_
  refine lv_icmp_gt (tgt := 92) hx hb dX8_steps_35 (by decide) (fun c1 => ?_) (fun c1 => ?_)
  · have h := h.1 c1
    exact tk_retv C w dX8_steps_92 h
  · have h := h.2 c1
    refine lv_iload hx hb dX8_steps_38 (lv_at hl 6 rfl) ?_
    refine lv_if_le (tgt := 92) hx hb dX8_steps_40 (by decide) (fun c2 => ?_) (fun c2 => ?_)
    · have h := h.1 c2
      exact tk_retv C w dX8_steps_92 h
    · have h := h.2 c2
      refine lv_aload_n hx hb dX8_steps_43 rfl (lv_at hl 0 rfl) ?_
      refine lv_iload_n hx hb dX8_steps_44 rfl (lv_at hl 1 rfl) ?_
      refine lv_iload_n hx hb dX8_steps_45 rfl (lv_at hl 2 rfl) ?_
      refine lv_iconst (v := 2) hx hb dX8_steps_46 (by decide) ?_
      refine lv_iload hx hb dX8_steps_47 (lv_at hl 7 rfl) ?_
      refine lv_imul hx hb dX8_steps_49 ?_
      refine lv_iload hx hb dX8_steps_50 (lv_at hl 4 rfl) ?_
      refine lv_imul hx hb dX8_steps_52 ?_
      refine lv_iload hx hb dX8_steps_53 (lv_at hl 6 rfl) ?_
      refine lv_iadd hx hb dX8_steps_55 ?_
      refine lv_iconst (v := 2) hx hb dX8_steps_56 (by decide) ?_
      refine lv_iload hx hb dX8_steps_57 (lv_at hl 6 rfl) ?_
      refine lv_imul hx hb dX8_steps_59 ?_
      refine tk_cS C w (as := [aI (((2 * x7) * x4) + x6), aI (2 * x6)]) (rest := [.int x2, .int x1, .ref (ad 132)]) mw_266 mw_5 mw_264 mw_265 hd_X8_down (by decide) hl.1 (Nat.le_of_ble_eq_true rfl) rfl dX8_steps_60 h (fun r3 σ4 H locs hq w => ?_)
      obtain ⟨y5, rfl, h⟩ := hq
      refine W.eq (g2 := F0 m 63 ls [.int y5, .int x2, .int x1, .ref (ad 132)]) rfl ?_
      refine lv_iadd hx hb dX8_steps_63 ?_
      refine lv_iload_n hx hb dX8_steps_64 rfl (lv_at hl 3 rfl) ?_
      refine lv_iconst (v := 2) hx hb dX8_steps_65 (by decide) ?_
      refine lv_iload hx hb dX8_steps_66 (lv_at hl 7 rfl) ?_
      refine lv_imul hx hb dX8_steps_68 ?_
      refine lv_iload hx hb dX8_steps_69 (lv_at hl 5 rfl) ?_
      refine lv_imul hx hb dX8_steps_71 ?_
      refine lv_iload hx hb dX8_steps_72 (lv_at hl 6 rfl) ?_
      refine lv_iadd hx hb dX8_steps_74 ?_
      refine lv_iconst (v := 2) hx hb dX8_steps_75 (by decide) ?_
      refine lv_iload hx hb dX8_steps_76 (lv_at hl 6 rfl) ?_
      refine lv_imul hx hb dX8_steps_78 ?_
      refine tk_cS C w (as := [aI (((2 * x7) * x5) + x6), aI (2 * x6)]) (rest := [.int x3, .int (x2 + y5), .int x1, .ref (ad 132)]) mw_266 mw_5 mw_264 mw_265 hd_X8_down (by decide) hl.1 (Nat.le_of_ble_eq_true rfl) rfl dX8_steps_79 h (fun r6 σ7 H locs hq w => ?_)
      obtain ⟨y8, rfl, h⟩ := hq
      refine W.eq (g2 := F0 m 82 ls [.int y8, .int x3, .int (x2 + y5), .int x1, .ref (ad 132)]) rfl ?_
      refine lv_iadd hx hb dX8_steps_82 ?_
      refine tk_cV C w (k := 132) rfl rfl (as := [aI x1, aI (x2 + y5), aI (x3 + y8)]) (rest := []) mw_256 mw_5 mw_253 mw_254 mw_255 hd_X8_puts (by decide) hl.1 (Nat.le_of_ble_eq_true rfl) rfl dX8_steps_83 h (fun r9 σ10 H locs hq w => ?_)
      obtain ⟨rfl, h⟩ := hq
      refine W.eq (g2 := F0 m 86 ls []) rfl ?_
      refine lv_iinc (v := x7 + 1) (lv' := [(7, .int (x7 + 1)), (0, .ref (ad 132)), (1, .int x1), (2, .int x2), (3, .int x3), (4, .int x4), (5, .int x5), (6, .int x6)]) hx hb dX8_steps_86 hl (k := 7) rfl rfl (by decide) rfl (fun ls hl => ?_)
      refine lv_goto (tgt := 31) hx hb dX8_steps_89 (by decide) ?_
      exact h _ _ _ _ _ _ _ _ _ _ _ _ _ _ _ _ C w (lv_sub hl [1, 2, 3, 4, 5, 6, 7, 0] rfl)
set_option maxHeartbeats 4000000 in
set_option maxRecDepth 100000 in
theorem b_X8_steps_0 (d : Nat) (x1 : Int32) (x2 : Int32) (x3 : Int32) (x4 : Int32) (x5 : Int32) (σ : tk_S) (Q : tk_S → Prop) (h : p_X8_abs d [aI x4] σ (fun y3 σ2 => p_X8_abs d [aI x5] σ2 (fun y6 σ5 => (y3 ≤ y6 → p_X8_abs d [aI x5] σ5 (fun y10 σ9 => g_X8_steps (d + 1) 31 [(0, aN 132), (1, aI x1), (2, aI x2), (3, aI x3), (4, aI x4), (5, aI x5), (6, aI y10), (7, aI 0)] σ9 Q)) ∧ (¬ y3 ≤ y6 → p_X8_abs d [aI x4] σ5 (fun y13 σ12 => g_X8_steps (d + 1) 31 [(0, aN 132), (1, aI x1), (2, aI x2), (3, aI x3), (4, aI x4), (5, aI x5), (6, aI y13), (7, aI 0)] σ12 Q))))) : g_X8_steps (d + 1) 0 [(0, aN 132), (1, aI x1), (2, aI x2), (3, aI x3), (4, aI x4), (5, aI x5)] σ Q := by
  intro p l e s m args below meth c D cy ad base H locs ls C w hl
  obtain ⟨hx, hb, hml, hown, hts, hr, hlk⟩ := id C
  have hl : lv_has ls 8 [(0, .ref (ad 132)), (1, .int x1), (2, .int x2), (3, .int x3), (4, .int x4), (5, .int x5)] := hl
  refine lv_iload hx hb dX8_steps_0 (lv_at hl 4 rfl) ?_
  refine tk_cS C w (as := [aI x4]) (rest := []) mw_263 mw_5 mw_261 mw_262 hd_X8_abs (by decide) hl.1 (Nat.le_of_ble_eq_true rfl) rfl dX8_steps_2 h (fun r1 σ2 H locs hq w => ?_)
  obtain ⟨y3, rfl, h⟩ := hq
  refine W.eq (g2 := F0 m 5 ls [.int y3]) rfl ?_
  refine lv_iload hx hb dX8_steps_5 (lv_at hl 5 rfl) ?_
  refine tk_cS C w (as := [aI x5]) (rest := [.int y3]) mw_263 mw_5 mw_261 mw_262 hd_X8_abs (by decide) hl.1 (Nat.le_of_ble_eq_true rfl) rfl dX8_steps_7 h (fun r4 σ5 H locs hq w => ?_)
  obtain ⟨y6, rfl, h⟩ := hq
  refine W.eq (g2 := F0 m 10 ls [.int y6, .int y3]) rfl ?_
  refine lv_icmp_le (tgt := 21) hx hb dX8_steps_10 (by decide) (fun c7 => ?_) (fun c7 => ?_)
  · have h := h.1 c7
    refine lv_iload hx hb dX8_steps_21 (lv_at hl 5 rfl) ?_
    refine tk_cS C w (as := [aI x5]) (rest := []) mw_263 mw_5 mw_261 mw_262 hd_X8_abs (by decide) hl.1 (Nat.le_of_ble_eq_true rfl) rfl dX8_steps_23 h (fun r8 σ9 H locs hq w => ?_)
    obtain ⟨y10, rfl, h⟩ := hq
    refine W.eq (g2 := F0 m 26 ls [.int y10]) rfl ?_
    refine lv_istore (lv' := [(6, .int y10), (0, .ref (ad 132)), (1, .int x1), (2, .int x2), (3, .int x3), (4, .int x4), (5, .int x5)]) hx hb dX8_steps_26 hl (by decide) rfl (fun ls hl => ?_)
    refine lv_iconst (v := 0) hx hb dX8_steps_28 (by decide) ?_
    refine lv_istore (lv' := [(7, .int 0), (6, .int y10), (0, .ref (ad 132)), (1, .int x1), (2, .int x2), (3, .int x3), (4, .int x4), (5, .int x5)]) hx hb dX8_steps_29 hl (by decide) rfl (fun ls hl => ?_)
    exact h _ _ _ _ _ _ _ _ _ _ _ _ _ _ _ _ C w (lv_sub hl [2, 3, 4, 5, 6, 7, 1, 0] rfl)
  · have h := h.2 c7
    refine lv_iload hx hb dX8_steps_13 (lv_at hl 4 rfl) ?_
    refine tk_cS C w (as := [aI x4]) (rest := []) mw_263 mw_5 mw_261 mw_262 hd_X8_abs (by decide) hl.1 (Nat.le_of_ble_eq_true rfl) rfl dX8_steps_15 h (fun r11 σ12 H locs hq w => ?_)
    obtain ⟨y13, rfl, h⟩ := hq
    refine W.eq (g2 := F0 m 18 ls [.int y13]) rfl ?_
    refine lv_goto (tgt := 26) hx hb dX8_steps_18 (by decide) ?_
    refine lv_istore (lv' := [(6, .int y13), (0, .ref (ad 132)), (1, .int x1), (2, .int x2), (3, .int x3), (4, .int x4), (5, .int x5)]) hx hb dX8_steps_26 hl (by decide) rfl (fun ls hl => ?_)
    refine lv_iconst (v := 0) hx hb dX8_steps_28 (by decide) ?_
    refine lv_istore (lv' := [(7, .int 0), (6, .int y13), (0, .ref (ad 132)), (1, .int x1), (2, .int x2), (3, .int x3), (4, .int x4), (5, .int x5)]) hx hb dX8_steps_29 hl (by decide) rfl (fun ls hl => ?_)
    exact h _ _ _ _ _ _ _ _ _ _ _ _ _ _ _ _ C w (lv_sub hl [2, 3, 4, 5, 6, 7, 1, 0] rfl)
theorem e_X8_steps (d : Nat) (x1 : Int32) (x2 : Int32) (x3 : Int32) (x4 : Int32) (x5 : Int32) {σ : tk_S} {Q : tk_S → Prop} (h : g_X8_steps d 0 [(0, aN 132), (1, aI x1), (2, aI x2), (3, aI x3), (4, aI x4), (5, aI x5)] σ Q) : p_X8_steps d [aN 132, aI x1, aI x2, aI x3, aI x4, aI x5] σ Q := tk_entry (by decide) rfl (fun _ => Nat.le_of_ble_eq_true rfl) (fun _ => rfl) h
abbrev g_X8_has (d pc : Nat) (vals : List (Nat × tk_V)) (σ : tk_S) (Q : Int32 → tk_S → Prop) : Prop := tk_G RX8 cX8_has 4 (some .boolean) d pc vals σ (tk_i Q)
set_option maxHeartbeats 4000000 in
set_option maxRecDepth 100000 in
theorem b_X8_has_0 (d : Nat) (x1 : Int32) (x2 : Int32) (x3 : Int32) (σ : tk_S) (Q : Int32 → tk_S → Prop) (h : vp_in (((576 * x1) + (24 * x3)) + x2) 6912 ∧ (narrow .boolean (.int (σ.1 140 (Int32.toNatClampNeg (((576 * x1) + (24 * x3)) + x2)))) = .int (σ.1 140 (Int32.toNatClampNeg (((576 * x1) + (24 * x3)) + x2))) ∧ Q (σ.1 140 (Int32.toNatClampNeg (((576 * x1) + (24 * x3)) + x2))) σ)) : g_X8_has d 0 [(0, aN 132), (1, aI x1), (2, aI x2), (3, aI x3)] σ Q := by
  intro p l e s m args below meth c D cy ad base H locs ls C w hl
  obtain ⟨hx, hb, hml, hown, hts, hr, hlk⟩ := id C
  have hl : lv_has ls 4 [(0, .ref (ad 132)), (1, .int x1), (2, .int x2), (3, .int x3)] := hl
  refine lv_aload_n hx hb dX8_has_0 rfl (lv_at hl 0 rfl) ?_
  refine tk_get (k := 132) (v := .ref (ad 140)) hx hb hts hown w rfl rfl inlX8 10 (by decide) mw_109 rfl dX8_has_1 ?_
  refine lv_sipush (v := 576) hx hb dX8_has_4 (by decide) ?_
  refine lv_iload_n hx hb dX8_has_7 rfl (lv_at hl 1 rfl) ?_
  refine lv_imul hx hb dX8_has_8 ?_
  refine lv_bipush (v := 24) hx hb dX8_has_9 (by decide) ?_
  refine lv_iload_n hx hb dX8_has_11 rfl (lv_at hl 3 rfl) ?_
  refine lv_imul hx hb dX8_has_12 ?_
  refine lv_iadd hx hb dX8_has_13 ?_
  refine lv_iload_n hx hb dX8_has_14 rfl (lv_at hl 2 rfl) ?_
  refine lv_iadd hx hb dX8_has_15 ?_
  obtain ⟨hi1, h⟩ := h
  refine tk_zald (k := 140) hx hb w rfl hi1 dX8_has_16 ?_
  exact tk_retz C w dX8_has_17 h.1 h.2
theorem e_X8_has (d : Nat) (x1 : Int32) (x2 : Int32) (x3 : Int32) {σ : tk_S} {Q : Int32 → tk_S → Prop} (h : g_X8_has d 0 [(0, aN 132), (1, aI x1), (2, aI x2), (3, aI x3)] σ Q) : p_X8_has d [aN 132, aI x1, aI x2, aI x3] σ Q := tk_entry (by decide) rfl (fun _ => Nat.le_of_ble_eq_true rfl) (fun _ => rfl) h
abbrev g_X8_pin (d pc : Nat) (vals : List (Nat × tk_V)) (σ : tk_S) (Q : Int32 → tk_S → Prop) : Prop := tk_G RX8 cX8_pin 4 (some .int) d pc vals σ (tk_i Q)
set_option maxHeartbeats 4000000 in
set_option maxRecDepth 100000 in
theorem b_X8_pin_0 (d : Nat) (x1 : Int32) (x2 : Int32) (x3 : Int32) (σ : tk_S) (Q : Int32 → tk_S → Prop) (h : p_X8_isShape d [aN 132, aI x1] σ (fun y3 σ2 => (y3 = 0 → Q (-1) σ2) ∧ (¬ y3 = 0 → p_X8_isPin d [aI x2, aI x3] σ2 (fun y7 σ6 => (¬ y7 = 0 → p_X8_has d [aN 132, aI x1, aI x2, aI x3] σ6 (fun y11 σ10 => (y11 = 0 → Q 0 σ10) ∧ (¬ y11 = 0 → Q 1 σ10))) ∧ (y7 = 0 → Q (-1) σ6))))) : g_X8_pin (d + 1) 0 [(0, aN 132), (1, aI x1), (2, aI x2), (3, aI x3)] σ Q := by
  intro p l e s m args below meth c D cy ad base H locs ls C w hl
  obtain ⟨hx, hb, hml, hown, hts, hr, hlk⟩ := id C
  have hl : lv_has ls 4 [(0, .ref (ad 132)), (1, .int x1), (2, .int x2), (3, .int x3)] := hl
  refine lv_aload_n hx hb dX8_pin_0 rfl (lv_at hl 0 rfl) ?_
  refine lv_iload_n hx hb dX8_pin_1 rfl (lv_at hl 1 rfl) ?_
  refine tk_cV C w (k := 132) rfl rfl (as := [aI x1]) (rest := []) mw_314 mw_5 mw_311 mw_312 mw_313 hd_X8_isShape (by decide) hl.1 (Nat.le_of_ble_eq_true rfl) rfl dX8_pin_2 h (fun r1 σ2 H locs hq w => ?_)
  obtain ⟨y3, rfl, h⟩ := hq
  refine W.eq (g2 := F0 m 5 ls [.int y3]) rfl ?_
  refine lv_if_eq (tgt := 16) hx hb dX8_pin_5 (by decide) (fun c4 => ?_) (fun c4 => ?_)
  · have h := h.1 c4
    refine lv_iconst (v := (-1)) hx hb dX8_pin_16 (by decide) ?_
    refine lv_goto (tgt := 35) hx hb dX8_pin_17 (by decide) ?_
    exact tk_reti C w dX8_pin_35 h
  · have h := h.2 c4
    refine lv_iload_n hx hb dX8_pin_8 rfl (lv_at hl 2 rfl) ?_
    refine lv_iload_n hx hb dX8_pin_9 rfl (lv_at hl 3 rfl) ?_
    refine tk_cS C w (as := [aI x2, aI x3]) (rest := []) mw_137 mw_5 mw_135 mw_136 hd_X8_isPin (by decide) hl.1 (Nat.le_of_ble_eq_true rfl) rfl dX8_pin_10 h (fun r5 σ6 H locs hq w => ?_)
    obtain ⟨y7, rfl, h⟩ := hq
    refine W.eq (g2 := F0 m 13 ls [.int y7]) rfl ?_
    refine lv_if_ne (tgt := 20) hx hb dX8_pin_13 (by decide) (fun c8 => ?_) (fun c8 => ?_)
    · have h := h.1 c8
      refine lv_aload_n hx hb dX8_pin_20 rfl (lv_at hl 0 rfl) ?_
      refine lv_iload_n hx hb dX8_pin_21 rfl (lv_at hl 1 rfl) ?_
      refine lv_iload_n hx hb dX8_pin_22 rfl (lv_at hl 2 rfl) ?_
      refine lv_iload_n hx hb dX8_pin_23 rfl (lv_at hl 3 rfl) ?_
      refine tk_cV C w (k := 132) rfl rfl (as := [aI x1, aI x2, aI x3]) (rest := []) mw_388 mw_5 mw_385 mw_386 mw_387 hd_X8_has (by decide) hl.1 (Nat.le_of_ble_eq_true rfl) rfl dX8_pin_24 h (fun r9 σ10 H locs hq w => ?_)
      obtain ⟨y11, rfl, h⟩ := hq
      refine W.eq (g2 := F0 m 27 ls [.int y11]) rfl ?_
      refine lv_if_eq (tgt := 34) hx hb dX8_pin_27 (by decide) (fun c12 => ?_) (fun c12 => ?_)
      · have h := h.1 c12
        refine lv_iconst (v := 0) hx hb dX8_pin_34 (by decide) ?_
        exact tk_reti C w dX8_pin_35 h
      · have h := h.2 c12
        refine lv_iconst (v := 1) hx hb dX8_pin_30 (by decide) ?_
        refine lv_goto (tgt := 35) hx hb dX8_pin_31 (by decide) ?_
        exact tk_reti C w dX8_pin_35 h
    · have h := h.2 c8
      refine lv_iconst (v := (-1)) hx hb dX8_pin_16 (by decide) ?_
      refine lv_goto (tgt := 35) hx hb dX8_pin_17 (by decide) ?_
      exact tk_reti C w dX8_pin_35 h
theorem e_X8_pin (d : Nat) (x1 : Int32) (x2 : Int32) (x3 : Int32) {σ : tk_S} {Q : Int32 → tk_S → Prop} (h : g_X8_pin d 0 [(0, aN 132), (1, aI x1), (2, aI x2), (3, aI x3)] σ Q) : p_X8_pin d [aN 132, aI x1, aI x2, aI x3] σ Q := tk_entry (by decide) rfl (fun _ => Nat.le_of_ble_eq_true rfl) (fun _ => rfl) h
abbrev g_X8_look (d pc : Nat) (vals : List (Nat × tk_V)) (σ : tk_S) (Q : Int32 → tk_S → Prop) : Prop := tk_G RX8 cX8_look 2 (some .int) d pc vals σ (tk_i Q)
set_option maxHeartbeats 4000000 in
set_option maxRecDepth 100000 in
theorem b_X8_look_0 (d : Nat) (x1 : Int32) (σ : tk_S) (Q : Int32 → tk_S → Prop) (h : (¬ x1 = 0 → (¬ x1 = 1 → (¬ x1 = 2 → Q (-1) σ) ∧ (x1 = 2 → Q (σ.1 132 2) σ)) ∧ (x1 = 1 → Q (σ.1 132 1) σ)) ∧ (x1 = 0 → Q (σ.1 132 0) σ)) : g_X8_look d 0 [(0, aN 132), (1, aI x1)] σ Q := by
  intro p l e s m args below meth c D cy ad base H locs ls C w hl
  obtain ⟨hx, hb, hml, hown, hts, hr, hlk⟩ := id C
  have hl : lv_has ls 2 [(0, .ref (ad 132)), (1, .int x1)] := hl
  refine lv_iload_n hx hb dX8_look_0 rfl (lv_at hl 1 rfl) ?_
  refine lv_if_ne (tgt := 11) hx hb dX8_look_1 (by decide) (fun c1 => ?_) (fun c1 => ?_)
  · have h := h.1 c1
    refine lv_iload_n hx hb dX8_look_11 rfl (lv_at hl 1 rfl) ?_
    refine lv_iconst (v := 1) hx hb dX8_look_12 (by decide) ?_
    refine lv_icmp_ne (tgt := 23) hx hb dX8_look_13 (by decide) (fun c2 => ?_) (fun c2 => ?_)
    · have h := h.1 c2
      refine lv_iload_n hx hb dX8_look_23 rfl (lv_at hl 1 rfl) ?_
      refine lv_iconst (v := 2) hx hb dX8_look_24 (by decide) ?_
      refine lv_icmp_ne (tgt := 35) hx hb dX8_look_25 (by decide) (fun c3 => ?_) (fun c3 => ?_)
      · have h := h.1 c3
        refine lv_iconst (v := (-1)) hx hb dX8_look_35 (by decide) ?_
        exact tk_reti C w dX8_look_36 h
      · have h := h.2 c3
        refine lv_aload_n hx hb dX8_look_28 rfl (lv_at hl 0 rfl) ?_
        refine tk_get (k := 132) (v := .int (σ.1 132 2)) hx hb hts hown w rfl rfl inlX8 2 (by decide) mw_100 rfl dX8_look_29 ?_
        refine lv_goto (tgt := 36) hx hb dX8_look_32 (by decide) ?_
        exact tk_reti C w dX8_look_36 h
    · have h := h.2 c2
      refine lv_aload_n hx hb dX8_look_16 rfl (lv_at hl 0 rfl) ?_
      refine tk_get (k := 132) (v := .int (σ.1 132 1)) hx hb hts hown w rfl rfl inlX8 1 (by decide) mw_134 rfl dX8_look_17 ?_
      refine lv_goto (tgt := 36) hx hb dX8_look_20 (by decide) ?_
      exact tk_reti C w dX8_look_36 h
  · have h := h.2 c1
    refine lv_aload_n hx hb dX8_look_4 rfl (lv_at hl 0 rfl) ?_
    refine tk_get (k := 132) (v := .int (σ.1 132 0)) hx hb hts hown w rfl rfl inlX8 0 (by decide) mw_244 rfl dX8_look_5 ?_
    refine lv_goto (tgt := 36) hx hb dX8_look_8 (by decide) ?_
    exact tk_reti C w dX8_look_36 h
theorem e_X8_look (d : Nat) (x1 : Int32) {σ : tk_S} {Q : Int32 → tk_S → Prop} (h : g_X8_look d 0 [(0, aN 132), (1, aI x1)] σ Q) : p_X8_look d [aN 132, aI x1] σ Q := tk_entry (by decide) rfl (fun _ => Nat.le_of_ble_eq_true rfl) (fun _ => rfl) h
abbrev g_X8_of (d pc : Nat) (vals : List (Nat × tk_V)) (σ : tk_S) (Q : Int32 → tk_S → Prop) : Prop := tk_G RX8 cX8_of 5 (some .int) d pc vals σ (tk_i Q)
set_option maxHeartbeats 4000000 in
set_option maxRecDepth 100000 in
theorem b_X8_of_61 (d : Nat) (x1 : Int32) (x3 : Int32) (x4 : Int32) (σ : tk_S) (Q : Int32 → tk_S → Prop) (h : (576 ≤ x4 → Q x3 σ) ∧ (¬ 576 ≤ x4 → vp_in ((576 * x1) + x4) 6912 ∧ (((σ.1 140 (Int32.toNatClampNeg ((576 * x1) + x4))) = 0 → g_X8_of (d + 1) 61 [(0, aN 132), (1, aI x1), (3, aI (x3 + 0)), (4, aI (x4 + 1))] σ Q) ∧ (¬ (σ.1 140 (Int32.toNatClampNeg ((576 * x1) + x4))) = 0 → g_X8_of (d + 1) 61 [(0, aN 132), (1, aI x1), (3, aI (x3 + 1)), (4, aI (x4 + 1))] σ Q)))) : g_X8_of (d + 1) 61 [(0, aN 132), (1, aI x1), (3, aI x3), (4, aI x4)] σ Q := by
  intro p l e s m args below meth c D cy ad base H locs ls C w hl
  obtain ⟨hx, hb, hml, hown, hts, hr, hlk⟩ := id C
  have hl : lv_has ls 5 [(0, .ref (ad 132)), (1, .int x1), (3, .int x3), (4, .int x4)] := hl
  refine lv_iload hx hb dX8_of_61 (lv_at hl 3 rfl) ?_
  refine lv_sipush (v := 576) hx hb dX8_of_63 (by decide) ?_
  refine lv_icmp_ge (tgt := 99) hx hb dX8_of_66 (by decide) (fun c1 => ?_) (fun c1 => ?_)
  · have h := h.1 c1
    refine lv_iload_n hx hb dX8_of_99 rfl (lv_at hl 2 rfl) ?_
    exact tk_reti C w dX8_of_100 h
  · have h := h.2 c1
    refine lv_iload_n hx hb dX8_of_69 rfl (lv_at hl 2 rfl) ?_
    refine lv_aload_n hx hb dX8_of_70 rfl (lv_at hl 0 rfl) ?_
    refine tk_get (k := 132) (v := .ref (ad 140)) hx hb hts hown w rfl rfl inlX8 10 (by decide) mw_109 rfl dX8_of_71 ?_
    refine lv_sipush (v := 576) hx hb dX8_of_74 (by decide) ?_
    refine lv_iload_n hx hb dX8_of_77 rfl (lv_at hl 1 rfl) ?_
    refine lv_imul hx hb dX8_of_78 ?_
    refine lv_iload hx hb dX8_of_79 (lv_at hl 3 rfl) ?_
    refine lv_iadd hx hb dX8_of_81 ?_
    obtain ⟨hi2, h⟩ := h
    refine tk_zald (k := 140) hx hb w rfl hi2 dX8_of_82 ?_
    refine lv_if_eq (tgt := 90) hx hb dX8_of_83 (by decide) (fun c3 => ?_) (fun c3 => ?_)
    · have h := h.1 c3
      refine lv_iconst (v := 0) hx hb dX8_of_90 (by decide) ?_
      refine lv_iadd hx hb dX8_of_91 ?_
      refine lv_istore_n (lv' := [(3, .int (x3 + 0)), (0, .ref (ad 132)), (1, .int x1), (4, .int x4)]) hx hb dX8_of_92 rfl hl (by decide) rfl (fun ls hl => ?_)
      refine lv_iinc (v := x4 + 1) (lv' := [(4, .int (x4 + 1)), (3, .int (x3 + 0)), (0, .ref (ad 132)), (1, .int x1)]) hx hb dX8_of_93 hl (k := 3) rfl rfl (by decide) rfl (fun ls hl => ?_)
      refine lv_goto (tgt := 61) hx hb dX8_of_96 (by decide) ?_
      exact h _ _ _ _ _ _ _ _ _ _ _ _ _ _ _ _ C w (lv_sub hl [2, 3, 1, 0] rfl)
    · have h := h.2 c3
      refine lv_iconst (v := 1) hx hb dX8_of_86 (by decide) ?_
      refine lv_goto (tgt := 91) hx hb dX8_of_87 (by decide) ?_
      refine lv_iadd hx hb dX8_of_91 ?_
      refine lv_istore_n (lv' := [(3, .int (x3 + 1)), (0, .ref (ad 132)), (1, .int x1), (4, .int x4)]) hx hb dX8_of_92 rfl hl (by decide) rfl (fun ls hl => ?_)
      refine lv_iinc (v := x4 + 1) (lv' := [(4, .int (x4 + 1)), (3, .int (x3 + 1)), (0, .ref (ad 132)), (1, .int x1)]) hx hb dX8_of_93 hl (k := 3) rfl rfl (by decide) rfl (fun ls hl => ?_)
      refine lv_goto (tgt := 61) hx hb dX8_of_96 (by decide) ?_
      exact h _ _ _ _ _ _ _ _ _ _ _ _ _ _ _ _ C w (lv_sub hl [2, 3, 1, 0] rfl)
set_option maxHeartbeats 4000000 in
set_option maxRecDepth 100000 in
theorem b_X8_of_0 (d : Nat) (x1 : Int32) (x2 : Int32) (σ : tk_S) (Q : Int32 → tk_S → Prop) (h : p_X8_isShape d [aN 132, aI x1] σ (fun y3 σ2 => (¬ y3 = 0 → (x2 = 0 → vp_in x1 12 ∧ (Q (σ2.1 135 (Int32.toNatClampNeg x1)) σ2)) ∧ (x2 = 1 → vp_in x1 12 ∧ (Q (σ2.1 136 (Int32.toNatClampNeg x1)) σ2)) ∧ (x2 = 2 → g_X8_of (d + 1) 61 [(0, aN 132), (1, aI x1), (3, aI 0), (4, aI 0)] σ2 Q) ∧ (x2 = 3 → vp_in x1 12 ∧ ((¬ (σ2.1 135 (Int32.toNatClampNeg x1)) = 0 → Q 0 σ2) ∧ ((σ2.1 135 (Int32.toNatClampNeg x1)) = 0 → vp_in x1 12 ∧ (Q (σ2.1 137 (Int32.toNatClampNeg x1)) σ2)))) ∧ (¬ x2 = 0 → ¬ x2 = 1 → ¬ x2 = 2 → ¬ x2 = 3 → vp_in x1 12 ∧ (p_X8_isIn d [aI x2, aI 10, aI (9 + (2 * (σ2.1 137 (Int32.toNatClampNeg x1))))] σ2 (fun y17 σ16 => (¬ y17 = 0 → ∀ z19 : Int32, z19 = (x2 - 10) / 2 → ((¬ (x2 - x2 / 2 * 2) = 0 → vp_in ((8 * x1) + z19) 96 ∧ (Q (σ16.1 139 (Int32.toNatClampNeg ((8 * x1) + z19))) σ16)) ∧ ((x2 - x2 / 2 * 2) = 0 → vp_in ((8 * x1) + z19) 96 ∧ (Q (σ16.1 138 (Int32.toNatClampNeg ((8 * x1) + z19))) σ16)))) ∧ (y17 = 0 → Q (-1) σ16))))) ∧ (y3 = 0 → Q (-1) σ2))) : g_X8_of (d + 1) 0 [(0, aN 132), (1, aI x1), (2, aI x2)] σ Q := by
  intro p l e s m args below meth c D cy ad base H locs ls C w hl
  obtain ⟨hx, hb, hml, hown, hts, hr, hlk⟩ := id C
  have hl : lv_has ls 5 [(0, .ref (ad 132)), (1, .int x1), (2, .int x2)] := hl
  refine lv_aload_n hx hb dX8_of_0 rfl (lv_at hl 0 rfl) ?_
  refine lv_iload_n hx hb dX8_of_1 rfl (lv_at hl 1 rfl) ?_
  refine tk_cV C w (k := 132) rfl rfl (as := [aI x1]) (rest := []) mw_314 mw_5 mw_311 mw_312 mw_313 hd_X8_isShape (by decide) hl.1 (Nat.le_of_ble_eq_true rfl) rfl dX8_of_2 h (fun r1 σ2 H locs hq w => ?_)
  obtain ⟨y3, rfl, h⟩ := hq
  refine W.eq (g2 := F0 m 5 ls [.int y3]) rfl ?_
  refine lv_if_ne (tgt := 10) hx hb dX8_of_5 (by decide) (fun c4 => ?_) (fun c4 => ?_)
  · have h := h.1 c4
    refine lv_iconst (v := 0) hx hb dX8_of_10 (by decide) ?_
    refine lv_istore_n (lv' := [(3, .int 0), (0, .ref (ad 132)), (1, .int x1), (2, .int x2)]) hx hb dX8_of_11 rfl hl (by decide) rfl (fun ls hl => ?_)
    refine lv_iload_n hx hb dX8_of_12 rfl (lv_at hl 3 rfl) ?_
    by_cases c5 : x2 = 0
    · have h := h.1 c5
      refine lv_tableIn (off := 31) (tgt := 44) hx hb dX8_of_13 (by rw [c5]; decide) (by rw [c5]; decide) (by rw [c5]; rfl) (by decide) ?_
      refine lv_aload_n hx hb dX8_of_44 rfl (lv_at hl 1 rfl) ?_
      refine tk_get (k := 132) (v := .ref (ad 135)) hx hb hts hown w rfl rfl inlX8 5 (by decide) mw_103 rfl dX8_of_45 ?_
      refine lv_iload_n hx hb dX8_of_48 rfl (lv_at hl 2 rfl) ?_
      obtain ⟨hi6, h⟩ := h
      refine tk_iald (k := 135) hx hb w rfl hi6 dX8_of_49 ?_
      exact tk_reti C w dX8_of_50 h
    · have h := h.2
      by_cases c7 : x2 = 1
      · have h := h.1 c7
        refine lv_tableIn (off := 38) (tgt := 51) hx hb dX8_of_13 (by rw [c7]; decide) (by rw [c7]; decide) (by rw [c7]; rfl) (by decide) ?_
        refine lv_aload_n hx hb dX8_of_51 rfl (lv_at hl 1 rfl) ?_
        refine tk_get (k := 132) (v := .ref (ad 136)) hx hb hts hown w rfl rfl inlX8 6 (by decide) mw_104 rfl dX8_of_52 ?_
        refine lv_iload_n hx hb dX8_of_55 rfl (lv_at hl 2 rfl) ?_
        obtain ⟨hi8, h⟩ := h
        refine tk_iald (k := 136) hx hb w rfl hi8 dX8_of_56 ?_
        exact tk_reti C w dX8_of_57 h
      · have h := h.2
        by_cases c9 : x2 = 2
        · have h := h.1 c9
          refine lv_tableIn (off := 45) (tgt := 58) hx hb dX8_of_13 (by rw [c9]; decide) (by rw [c9]; decide) (by rw [c9]; rfl) (by decide) ?_
          refine lv_iconst (v := 0) hx hb dX8_of_58 (by decide) ?_
          refine lv_istore (lv' := [(4, .int 0), (3, .int 0), (0, .ref (ad 132)), (1, .int x1), (2, .int x2)]) hx hb dX8_of_59 hl (by decide) rfl (fun ls hl => ?_)
          exact h _ _ _ _ _ _ _ _ _ _ _ _ _ _ _ _ C w (lv_sub hl [2, 3, 1, 0] rfl)
        · have h := h.2
          by_cases c10 : x2 = 3
          · have h := h.1 c10
            refine lv_tableIn (off := 88) (tgt := 101) hx hb dX8_of_13 (by rw [c10]; decide) (by rw [c10]; decide) (by rw [c10]; rfl) (by decide) ?_
            refine lv_aload_n hx hb dX8_of_101 rfl (lv_at hl 1 rfl) ?_
            refine tk_get (k := 132) (v := .ref (ad 135)) hx hb hts hown w rfl rfl inlX8 5 (by decide) mw_103 rfl dX8_of_102 ?_
            refine lv_iload_n hx hb dX8_of_105 rfl (lv_at hl 2 rfl) ?_
            obtain ⟨hi11, h⟩ := h
            refine tk_iald (k := 135) hx hb w rfl hi11 dX8_of_106 ?_
            refine lv_if_ne (tgt := 119) hx hb dX8_of_107 (by decide) (fun c12 => ?_) (fun c12 => ?_)
            · have h := h.1 c12
              refine lv_iconst (v := 0) hx hb dX8_of_119 (by decide) ?_
              exact tk_reti C w dX8_of_120 h
            · have h := h.2 c12
              refine lv_aload_n hx hb dX8_of_110 rfl (lv_at hl 1 rfl) ?_
              refine tk_get (k := 132) (v := .ref (ad 137)) hx hb hts hown w rfl rfl inlX8 7 (by decide) mw_105 rfl dX8_of_111 ?_
              refine lv_iload_n hx hb dX8_of_114 rfl (lv_at hl 2 rfl) ?_
              obtain ⟨hi13, h⟩ := h
              refine tk_iald (k := 137) hx hb w rfl hi13 dX8_of_115 ?_
              refine lv_goto (tgt := 120) hx hb dX8_of_116 (by decide) ?_
              exact tk_reti C w dX8_of_120 h
          · have h := h.2
            have h := h c5
            have h := h c7
            have h := h c9
            have h := h c10
            refine lv_tableOut (tgt := 121) hx hb dX8_of_13 (by have := lv_neT c5 (a := 0) rfl; have := lv_neT c7 (a := 1) rfl; have := lv_neT c9 (a := 2) rfl; have := lv_neT c10 (a := 3) rfl; omega) (by decide) ?_
            refine lv_iload_n hx hb dX8_of_121 rfl (lv_at hl 3 rfl) ?_
            refine lv_bipush (v := 10) hx hb dX8_of_122 (by decide) ?_
            refine lv_bipush (v := 9) hx hb dX8_of_124 (by decide) ?_
            refine lv_iconst (v := 2) hx hb dX8_of_126 (by decide) ?_
            refine lv_aload_n hx hb dX8_of_127 rfl (lv_at hl 1 rfl) ?_
            refine tk_get (k := 132) (v := .ref (ad 137)) hx hb hts hown w rfl rfl inlX8 7 (by decide) mw_105 rfl dX8_of_128 ?_
            refine lv_iload_n hx hb dX8_of_131 rfl (lv_at hl 2 rfl) ?_
            obtain ⟨hi14, h⟩ := h
            refine tk_iald (k := 137) hx hb w rfl hi14 dX8_of_132 ?_
            refine lv_imul hx hb dX8_of_133 ?_
            refine lv_iadd hx hb dX8_of_134 ?_
            refine tk_cS C w (as := [aI x2, aI 10, aI (9 + (2 * (σ2.1 137 (Int32.toNatClampNeg x1))))]) (rest := []) mw_140 mw_5 mw_138 mw_139 hd_X8_isIn (by decide) hl.1 (Nat.le_of_ble_eq_true rfl) rfl dX8_of_135 h (fun r15 σ16 H locs hq w => ?_)
            obtain ⟨y17, rfl, h⟩ := hq
            refine W.eq (g2 := F0 m 138 ls [.int y17]) rfl ?_
            refine lv_if_ne (tgt := 143) hx hb dX8_of_138 (by decide) (fun c18 => ?_) (fun c18 => ?_)
            · have h := h.1 c18
              refine lv_iload_n hx hb dX8_of_143 rfl (lv_at hl 3 rfl) ?_
              refine lv_bipush (v := 10) hx hb dX8_of_144 (by decide) ?_
              refine lv_isub hx hb dX8_of_146 ?_
              refine lv_iconst (v := 2) hx hb dX8_of_147 (by decide) ?_
              refine lv_idiv hx hb dX8_of_148 (by decide) ?_
              refine lv_topi (fun z19 e_z19 => ?_)
              have h := h z19 e_z19
              refine lv_istore (lv' := [(4, .int z19), (3, .int 0), (0, .ref (ad 132)), (1, .int x1), (2, .int x2)]) hx hb dX8_of_149 hl (by decide) rfl (fun ls hl => ?_)
              refine lv_iload_n hx hb dX8_of_151 rfl (lv_at hl 4 rfl) ?_
              refine lv_iconst (v := 2) hx hb dX8_of_152 (by decide) ?_
              refine lv_irem hx hb dX8_of_153 (by decide) ?_
              refine lv_if_ne (tgt := 172) hx hb dX8_of_154 (by decide) (fun c20 => ?_) (fun c20 => ?_)
              · have h := h.1 c20
                refine lv_aload_n hx hb dX8_of_172 rfl (lv_at hl 2 rfl) ?_
                refine tk_get (k := 132) (v := .ref (ad 139)) hx hb hts hown w rfl rfl inlX8 9 (by decide) mw_107 rfl dX8_of_173 ?_
                refine lv_bipush (v := 8) hx hb dX8_of_176 (by decide) ?_
                refine lv_iload_n hx hb dX8_of_178 rfl (lv_at hl 3 rfl) ?_
                refine lv_imul hx hb dX8_of_179 ?_
                refine lv_iload hx hb dX8_of_180 (lv_at hl 0 rfl) ?_
                refine lv_iadd hx hb dX8_of_182 ?_
                obtain ⟨hi21, h⟩ := h
                refine tk_iald (k := 139) hx hb w rfl hi21 dX8_of_183 ?_
                exact tk_reti C w dX8_of_184 h
              · have h := h.2 c20
                refine lv_aload_n hx hb dX8_of_157 rfl (lv_at hl 2 rfl) ?_
                refine tk_get (k := 132) (v := .ref (ad 138)) hx hb hts hown w rfl rfl inlX8 8 (by decide) mw_106 rfl dX8_of_158 ?_
                refine lv_bipush (v := 8) hx hb dX8_of_161 (by decide) ?_
                refine lv_iload_n hx hb dX8_of_163 rfl (lv_at hl 3 rfl) ?_
                refine lv_imul hx hb dX8_of_164 ?_
                refine lv_iload hx hb dX8_of_165 (lv_at hl 0 rfl) ?_
                refine lv_iadd hx hb dX8_of_167 ?_
                obtain ⟨hi22, h⟩ := h
                refine tk_iald (k := 138) hx hb w rfl hi22 dX8_of_168 ?_
                refine lv_goto (tgt := 184) hx hb dX8_of_169 (by decide) ?_
                exact tk_reti C w dX8_of_184 h
            · have h := h.2 c18
              refine lv_iconst (v := (-1)) hx hb dX8_of_141 (by decide) ?_
              exact tk_reti C w dX8_of_142 h
  · have h := h.2 c4
    refine lv_iconst (v := (-1)) hx hb dX8_of_8 (by decide) ?_
    exact tk_reti C w dX8_of_9 h
theorem e_X8_of (d : Nat) (x1 : Int32) (x2 : Int32) {σ : tk_S} {Q : Int32 → tk_S → Prop} (h : g_X8_of d 0 [(0, aN 132), (1, aI x1), (2, aI x2)] σ Q) : p_X8_of d [aN 132, aI x1, aI x2] σ Q := tk_entry (by decide) rfl (fun _ => Nat.le_of_ble_eq_true rfl) (fun _ => rfl) h
abbrev g_X8_farOf (d pc : Nat) (vals : List (Nat × tk_V)) (σ : tk_S) (Q : Int32 → tk_S → Prop) : Prop := tk_G RX8 cX8_farOf 9 (some .int) d pc vals σ (tk_i Q)
set_option maxHeartbeats 4000000 in
set_option maxRecDepth 100000 in
theorem b_X8_farOf_40 (d : Nat) (x1 : Int32) (x2 : Int32) (x3 : Int32) (x4 : Int32) (x5 : Int32) (σ : tk_S) (Q : Int32 → tk_S → Prop) (h : (576 ≤ x5 → g_X8_farOf (d + 1) 6 [(0, aN 132), (1, aI x1), (2, aI x2), (3, aI x3), (4, aI (x4 + 1))] σ Q) ∧ (¬ 576 ≤ x5 → (x3 ≤ 0 → g_X8_farOf (d + 1) 6 [(0, aN 132), (1, aI x1), (2, aI x2), (3, aI x3), (4, aI (x4 + 1))] σ Q) ∧ (¬ x3 ≤ 0 → vp_in ((576 * x2) + x5) 6912 ∧ ((¬ (σ.1 140 (Int32.toNatClampNeg ((576 * x2) + x5))) = 0 → p_X8_abs d [aI ((x4 - x4 / 24 * 24) - (x5 - x5 / 24 * 24))] σ (fun y7 σ6 => p_X8_abs d [aI ((x4 / 24) - (x5 / 24))] σ6 (fun y10 σ9 => (y7 ≤ y10 → (x3 ≤ y10 → g_X8_farOf (d + 1) 40 [(0, aN 132), (1, aI x1), (2, aI x2), (3, aI x3), (4, aI x4), (5, aI (x5 + 1))] σ9 Q) ∧ (¬ x3 ≤ y10 → g_X8_farOf (d + 1) 40 [(0, aN 132), (1, aI x1), (2, aI x2), (3, aI y10), (4, aI x4), (5, aI (x5 + 1))] σ9 Q)) ∧ (¬ y7 ≤ y10 → (x3 ≤ y7 → g_X8_farOf (d + 1) 40 [(0, aN 132), (1, aI x1), (2, aI x2), (3, aI x3), (4, aI x4), (5, aI (x5 + 1))] σ9 Q) ∧ (¬ x3 ≤ y7 → g_X8_farOf (d + 1) 40 [(0, aN 132), (1, aI x1), (2, aI x2), (3, aI y7), (4, aI x4), (5, aI (x5 + 1))] σ9 Q))))) ∧ ((σ.1 140 (Int32.toNatClampNeg ((576 * x2) + x5))) = 0 → g_X8_farOf (d + 1) 40 [(0, aN 132), (1, aI x1), (2, aI x2), (3, aI x3), (4, aI x4), (5, aI (x5 + 1))] σ Q))))) : g_X8_farOf (d + 1) 40 [(0, aN 132), (1, aI x1), (2, aI x2), (3, aI x3), (4, aI x4), (5, aI x5)] σ Q := by
  intro p l e s m args below meth c D cy ad base H locs ls C w hl
  obtain ⟨hx, hb, hml, hown, hts, hr, hlk⟩ := id C
  have hl : lv_has ls 9 [(0, .ref (ad 132)), (1, .int x1), (2, .int x2), (3, .int x3), (4, .int x4), (5, .int x5)] := hl
  refine lv_iload hx hb dX8_farOf_40 (lv_at hl 5 rfl) ?_
  refine lv_sipush (v := 576) hx hb dX8_farOf_42 (by decide) ?_
  refine lv_icmp_ge (tgt := 138) hx hb dX8_farOf_45 (by decide) (fun c1 => ?_) (fun c1 => ?_)
  · have h := h.1 c1
    refine lv_iinc (v := x4 + 1) (lv' := [(4, .int (x4 + 1)), (0, .ref (ad 132)), (1, .int x1), (2, .int x2), (3, .int x3), (5, .int x5)]) hx hb dX8_farOf_138 hl (k := 4) rfl rfl (by decide) rfl (fun ls hl => ?_)
    refine lv_goto (tgt := 6) hx hb dX8_farOf_141 (by decide) ?_
    exact h _ _ _ _ _ _ _ _ _ _ _ _ _ _ _ _ C w (lv_sub hl [1, 2, 3, 4, 0] rfl)
  · have h := h.2 c1
    refine lv_iload_n hx hb dX8_farOf_48 rfl (lv_at hl 3 rfl) ?_
    refine lv_if_le (tgt := 138) hx hb dX8_farOf_49 (by decide) (fun c2 => ?_) (fun c2 => ?_)
    · have h := h.1 c2
      refine lv_iinc (v := x4 + 1) (lv' := [(4, .int (x4 + 1)), (0, .ref (ad 132)), (1, .int x1), (2, .int x2), (3, .int x3), (5, .int x5)]) hx hb dX8_farOf_138 hl (k := 4) rfl rfl (by decide) rfl (fun ls hl => ?_)
      refine lv_goto (tgt := 6) hx hb dX8_farOf_141 (by decide) ?_
      exact h _ _ _ _ _ _ _ _ _ _ _ _ _ _ _ _ C w (lv_sub hl [1, 2, 3, 4, 0] rfl)
    · have h := h.2 c2
      refine lv_aload_n hx hb dX8_farOf_52 rfl (lv_at hl 0 rfl) ?_
      refine tk_get (k := 132) (v := .ref (ad 140)) hx hb hts hown w rfl rfl inlX8 10 (by decide) mw_109 rfl dX8_farOf_53 ?_
      refine lv_sipush (v := 576) hx hb dX8_farOf_56 (by decide) ?_
      refine lv_iload_n hx hb dX8_farOf_59 rfl (lv_at hl 2 rfl) ?_
      refine lv_imul hx hb dX8_farOf_60 ?_
      refine lv_iload hx hb dX8_farOf_61 (lv_at hl 5 rfl) ?_
      refine lv_iadd hx hb dX8_farOf_63 ?_
      obtain ⟨hi3, h⟩ := h
      refine tk_zald (k := 140) hx hb w rfl hi3 dX8_farOf_64 ?_
      refine lv_if_ne (tgt := 71) hx hb dX8_farOf_65 (by decide) (fun c4 => ?_) (fun c4 => ?_)
      · have h := h.1 c4
        refine lv_iload hx hb dX8_farOf_71 (lv_at hl 4 rfl) ?_
        refine lv_bipush (v := 24) hx hb dX8_farOf_73 (by decide) ?_
        refine lv_irem hx hb dX8_farOf_75 (by decide) ?_
        refine lv_iload hx hb dX8_farOf_76 (lv_at hl 5 rfl) ?_
        refine lv_bipush (v := 24) hx hb dX8_farOf_78 (by decide) ?_
        refine lv_irem hx hb dX8_farOf_80 (by decide) ?_
        refine lv_isub hx hb dX8_farOf_81 ?_
        refine tk_cS C w (as := [aI ((x4 - x4 / 24 * 24) - (x5 - x5 / 24 * 24))]) (rest := []) mw_263 mw_5 mw_261 mw_262 hd_X8_abs (by decide) hl.1 (Nat.le_of_ble_eq_true rfl) rfl dX8_farOf_82 h (fun r5 σ6 H locs hq w => ?_)
        obtain ⟨y7, rfl, h⟩ := hq
        refine W.eq (g2 := F0 m 85 ls [.int y7]) rfl ?_
        refine lv_istore (lv' := [(6, .int y7), (0, .ref (ad 132)), (1, .int x1), (2, .int x2), (3, .int x3), (4, .int x4), (5, .int x5)]) hx hb dX8_farOf_85 hl (by decide) rfl (fun ls hl => ?_)
        refine lv_iload hx hb dX8_farOf_87 (lv_at hl 5 rfl) ?_
        refine lv_bipush (v := 24) hx hb dX8_farOf_89 (by decide) ?_
        refine lv_idiv hx hb dX8_farOf_91 (by decide) ?_
        refine lv_iload hx hb dX8_farOf_92 (lv_at hl 6 rfl) ?_
        refine lv_bipush (v := 24) hx hb dX8_farOf_94 (by decide) ?_
        refine lv_idiv hx hb dX8_farOf_96 (by decide) ?_
        refine lv_isub hx hb dX8_farOf_97 ?_
        refine tk_cS C w (as := [aI ((x4 / 24) - (x5 / 24))]) (rest := []) mw_263 mw_5 mw_261 mw_262 hd_X8_abs (by decide) hl.1 (Nat.le_of_ble_eq_true rfl) rfl dX8_farOf_98 h (fun r8 σ9 H locs hq w => ?_)
        obtain ⟨y10, rfl, h⟩ := hq
        refine W.eq (g2 := F0 m 101 ls [.int y10]) rfl ?_
        refine lv_istore (lv' := [(7, .int y10), (6, .int y7), (0, .ref (ad 132)), (1, .int x1), (2, .int x2), (3, .int x3), (4, .int x4), (5, .int x5)]) hx hb dX8_farOf_101 hl (by decide) rfl (fun ls hl => ?_)
        refine lv_iload hx hb dX8_farOf_103 (lv_at hl 1 rfl) ?_
        refine lv_iload hx hb dX8_farOf_105 (lv_at hl 0 rfl) ?_
        refine lv_icmp_le (tgt := 115) hx hb dX8_farOf_107 (by decide) (fun c11 => ?_) (fun c11 => ?_)
        · have h := h.1 c11
          refine lv_iload hx hb dX8_farOf_115 (lv_at hl 0 rfl) ?_
          refine lv_istore (lv' := [(8, .int y10), (7, .int y10), (6, .int y7), (0, .ref (ad 132)), (1, .int x1), (2, .int x2), (3, .int x3), (4, .int x4), (5, .int x5)]) hx hb dX8_farOf_117 hl (by decide) rfl (fun ls hl => ?_)
          refine lv_iload hx hb dX8_farOf_119 (lv_at hl 0 rfl) ?_
          refine lv_iload_n hx hb dX8_farOf_121 rfl (lv_at hl 6 rfl) ?_
          refine lv_icmp_ge (tgt := 130) hx hb dX8_farOf_122 (by decide) (fun c12 => ?_) (fun c12 => ?_)
          · have h := h.1 c12
            refine lv_iload_n hx hb dX8_farOf_130 rfl (lv_at hl 6 rfl) ?_
            refine lv_istore_n (lv' := [(3, .int x3), (8, .int y10), (7, .int y10), (6, .int y7), (0, .ref (ad 132)), (1, .int x1), (2, .int x2), (4, .int x4), (5, .int x5)]) hx hb dX8_farOf_131 rfl hl (by decide) rfl (fun ls hl => ?_)
            refine lv_iinc (v := x5 + 1) (lv' := [(5, .int (x5 + 1)), (3, .int x3), (8, .int y10), (7, .int y10), (6, .int y7), (0, .ref (ad 132)), (1, .int x1), (2, .int x2), (4, .int x4)]) hx hb dX8_farOf_132 hl (k := 8) rfl rfl (by decide) rfl (fun ls hl => ?_)
            refine lv_goto (tgt := 40) hx hb dX8_farOf_135 (by decide) ?_
            exact h _ _ _ _ _ _ _ _ _ _ _ _ _ _ _ _ C w (lv_sub hl [5, 6, 7, 1, 8, 0] rfl)
          · have h := h.2 c12
            refine lv_iload hx hb dX8_farOf_125 (lv_at hl 0 rfl) ?_
            refine lv_goto (tgt := 131) hx hb dX8_farOf_127 (by decide) ?_
            refine lv_istore_n (lv' := [(3, .int y10), (8, .int y10), (7, .int y10), (6, .int y7), (0, .ref (ad 132)), (1, .int x1), (2, .int x2), (4, .int x4), (5, .int x5)]) hx hb dX8_farOf_131 rfl hl (by decide) rfl (fun ls hl => ?_)
            refine lv_iinc (v := x5 + 1) (lv' := [(5, .int (x5 + 1)), (3, .int y10), (8, .int y10), (7, .int y10), (6, .int y7), (0, .ref (ad 132)), (1, .int x1), (2, .int x2), (4, .int x4)]) hx hb dX8_farOf_132 hl (k := 8) rfl rfl (by decide) rfl (fun ls hl => ?_)
            refine lv_goto (tgt := 40) hx hb dX8_farOf_135 (by decide) ?_
            exact h _ _ _ _ _ _ _ _ _ _ _ _ _ _ _ _ C w (lv_sub hl [5, 6, 7, 1, 8, 0] rfl)
        · have h := h.2 c11
          refine lv_iload hx hb dX8_farOf_110 (lv_at hl 1 rfl) ?_
          refine lv_goto (tgt := 117) hx hb dX8_farOf_112 (by decide) ?_
          refine lv_istore (lv' := [(8, .int y7), (7, .int y10), (6, .int y7), (0, .ref (ad 132)), (1, .int x1), (2, .int x2), (3, .int x3), (4, .int x4), (5, .int x5)]) hx hb dX8_farOf_117 hl (by decide) rfl (fun ls hl => ?_)
          refine lv_iload hx hb dX8_farOf_119 (lv_at hl 0 rfl) ?_
          refine lv_iload_n hx hb dX8_farOf_121 rfl (lv_at hl 6 rfl) ?_
          refine lv_icmp_ge (tgt := 130) hx hb dX8_farOf_122 (by decide) (fun c13 => ?_) (fun c13 => ?_)
          · have h := h.1 c13
            refine lv_iload_n hx hb dX8_farOf_130 rfl (lv_at hl 6 rfl) ?_
            refine lv_istore_n (lv' := [(3, .int x3), (8, .int y7), (7, .int y10), (6, .int y7), (0, .ref (ad 132)), (1, .int x1), (2, .int x2), (4, .int x4), (5, .int x5)]) hx hb dX8_farOf_131 rfl hl (by decide) rfl (fun ls hl => ?_)
            refine lv_iinc (v := x5 + 1) (lv' := [(5, .int (x5 + 1)), (3, .int x3), (8, .int y7), (7, .int y10), (6, .int y7), (0, .ref (ad 132)), (1, .int x1), (2, .int x2), (4, .int x4)]) hx hb dX8_farOf_132 hl (k := 8) rfl rfl (by decide) rfl (fun ls hl => ?_)
            refine lv_goto (tgt := 40) hx hb dX8_farOf_135 (by decide) ?_
            exact h _ _ _ _ _ _ _ _ _ _ _ _ _ _ _ _ C w (lv_sub hl [5, 6, 7, 1, 8, 0] rfl)
          · have h := h.2 c13
            refine lv_iload hx hb dX8_farOf_125 (lv_at hl 0 rfl) ?_
            refine lv_goto (tgt := 131) hx hb dX8_farOf_127 (by decide) ?_
            refine lv_istore_n (lv' := [(3, .int y7), (8, .int y7), (7, .int y10), (6, .int y7), (0, .ref (ad 132)), (1, .int x1), (2, .int x2), (4, .int x4), (5, .int x5)]) hx hb dX8_farOf_131 rfl hl (by decide) rfl (fun ls hl => ?_)
            refine lv_iinc (v := x5 + 1) (lv' := [(5, .int (x5 + 1)), (3, .int y7), (8, .int y7), (7, .int y10), (6, .int y7), (0, .ref (ad 132)), (1, .int x1), (2, .int x2), (4, .int x4)]) hx hb dX8_farOf_132 hl (k := 8) rfl rfl (by decide) rfl (fun ls hl => ?_)
            refine lv_goto (tgt := 40) hx hb dX8_farOf_135 (by decide) ?_
            exact h _ _ _ _ _ _ _ _ _ _ _ _ _ _ _ _ C w (lv_sub hl [5, 6, 7, 1, 8, 0] rfl)
      · have h := h.2 c4
        refine lv_goto (tgt := 132) hx hb dX8_farOf_68 (by decide) ?_
        refine lv_iinc (v := x5 + 1) (lv' := [(5, .int (x5 + 1)), (0, .ref (ad 132)), (1, .int x1), (2, .int x2), (3, .int x3), (4, .int x4)]) hx hb dX8_farOf_132 hl (k := 5) rfl rfl (by decide) rfl (fun ls hl => ?_)
        refine lv_goto (tgt := 40) hx hb dX8_farOf_135 (by decide) ?_
        exact h _ _ _ _ _ _ _ _ _ _ _ _ _ _ _ _ C w (lv_sub hl [1, 2, 3, 4, 5, 0] rfl)
set_option maxHeartbeats 4000000 in
set_option maxRecDepth 100000 in
theorem b_X8_farOf_6 (d : Nat) (x1 : Int32) (x2 : Int32) (x3 : Int32) (x4 : Int32) (σ : tk_S) (Q : Int32 → tk_S → Prop) (h : (576 ≤ x4 → Q x3 σ) ∧ (¬ 576 ≤ x4 → (x3 ≤ 0 → Q x3 σ) ∧ (¬ x3 ≤ 0 → vp_in ((576 * x1) + x4) 6912 ∧ ((¬ (σ.1 140 (Int32.toNatClampNeg ((576 * x1) + x4))) = 0 → g_X8_farOf (d + 1) 40 [(0, aN 132), (1, aI x1), (2, aI x2), (3, aI x3), (4, aI x4), (5, aI 0)] σ Q) ∧ ((σ.1 140 (Int32.toNatClampNeg ((576 * x1) + x4))) = 0 → g_X8_farOf (d + 1) 6 [(0, aN 132), (1, aI x1), (2, aI x2), (3, aI x3), (4, aI (x4 + 1))] σ Q))))) : g_X8_farOf (d + 1) 6 [(0, aN 132), (1, aI x1), (2, aI x2), (3, aI x3), (4, aI x4)] σ Q := by
  intro p l e s m args below meth c D cy ad base H locs ls C w hl
  obtain ⟨hx, hb, hml, hown, hts, hr, hlk⟩ := id C
  have hl : lv_has ls 9 [(0, .ref (ad 132)), (1, .int x1), (2, .int x2), (3, .int x3), (4, .int x4)] := hl
  refine lv_iload hx hb dX8_farOf_6 (lv_at hl 4 rfl) ?_
  refine lv_sipush (v := 576) hx hb dX8_farOf_8 (by decide) ?_
  refine lv_icmp_ge (tgt := 144) hx hb dX8_farOf_11 (by decide) (fun c1 => ?_) (fun c1 => ?_)
  · have h := h.1 c1
    refine lv_iload_n hx hb dX8_farOf_144 rfl (lv_at hl 3 rfl) ?_
    exact tk_reti C w dX8_farOf_145 h
  · have h := h.2 c1
    refine lv_iload_n hx hb dX8_farOf_14 rfl (lv_at hl 3 rfl) ?_
    refine lv_if_le (tgt := 144) hx hb dX8_farOf_15 (by decide) (fun c2 => ?_) (fun c2 => ?_)
    · have h := h.1 c2
      refine lv_iload_n hx hb dX8_farOf_144 rfl (lv_at hl 3 rfl) ?_
      exact tk_reti C w dX8_farOf_145 h
    · have h := h.2 c2
      refine lv_aload_n hx hb dX8_farOf_18 rfl (lv_at hl 0 rfl) ?_
      refine tk_get (k := 132) (v := .ref (ad 140)) hx hb hts hown w rfl rfl inlX8 10 (by decide) mw_109 rfl dX8_farOf_19 ?_
      refine lv_sipush (v := 576) hx hb dX8_farOf_22 (by decide) ?_
      refine lv_iload_n hx hb dX8_farOf_25 rfl (lv_at hl 1 rfl) ?_
      refine lv_imul hx hb dX8_farOf_26 ?_
      refine lv_iload hx hb dX8_farOf_27 (lv_at hl 4 rfl) ?_
      refine lv_iadd hx hb dX8_farOf_29 ?_
      obtain ⟨hi3, h⟩ := h
      refine tk_zald (k := 140) hx hb w rfl hi3 dX8_farOf_30 ?_
      refine lv_if_ne (tgt := 37) hx hb dX8_farOf_31 (by decide) (fun c4 => ?_) (fun c4 => ?_)
      · have h := h.1 c4
        refine lv_iconst (v := 0) hx hb dX8_farOf_37 (by decide) ?_
        refine lv_istore (lv' := [(5, .int 0), (0, .ref (ad 132)), (1, .int x1), (2, .int x2), (3, .int x3), (4, .int x4)]) hx hb dX8_farOf_38 hl (by decide) rfl (fun ls hl => ?_)
        exact h _ _ _ _ _ _ _ _ _ _ _ _ _ _ _ _ C w (lv_sub hl [1, 2, 3, 4, 5, 0] rfl)
      · have h := h.2 c4
        refine lv_goto (tgt := 138) hx hb dX8_farOf_34 (by decide) ?_
        refine lv_iinc (v := x4 + 1) (lv' := [(4, .int (x4 + 1)), (0, .ref (ad 132)), (1, .int x1), (2, .int x2), (3, .int x3)]) hx hb dX8_farOf_138 hl (k := 4) rfl rfl (by decide) rfl (fun ls hl => ?_)
        refine lv_goto (tgt := 6) hx hb dX8_farOf_141 (by decide) ?_
        exact h _ _ _ _ _ _ _ _ _ _ _ _ _ _ _ _ C w (lv_sub hl [1, 2, 3, 4, 0] rfl)
set_option maxHeartbeats 4000000 in
set_option maxRecDepth 100000 in
theorem b_X8_farOf_0 (d : Nat) (x1 : Int32) (x2 : Int32) (σ : tk_S) (Q : Int32 → tk_S → Prop) (h : g_X8_farOf (d + 1) 6 [(0, aN 132), (1, aI x1), (2, aI x2), (3, aI 24), (4, aI 0)] σ Q) : g_X8_farOf (d + 1) 0 [(0, aN 132), (1, aI x1), (2, aI x2)] σ Q := by
  intro p l e s m args below meth c D cy ad base H locs ls C w hl
  obtain ⟨hx, hb, hml, hown, hts, hr, hlk⟩ := id C
  have hl : lv_has ls 9 [(0, .ref (ad 132)), (1, .int x1), (2, .int x2)] := hl
  refine lv_bipush (v := 24) hx hb dX8_farOf_0 (by decide) ?_
  refine lv_istore_n (lv' := [(3, .int 24), (0, .ref (ad 132)), (1, .int x1), (2, .int x2)]) hx hb dX8_farOf_2 rfl hl (by decide) rfl (fun ls hl => ?_)
  refine lv_iconst (v := 0) hx hb dX8_farOf_3 (by decide) ?_
  refine lv_istore (lv' := [(4, .int 0), (3, .int 24), (0, .ref (ad 132)), (1, .int x1), (2, .int x2)]) hx hb dX8_farOf_4 hl (by decide) rfl (fun ls hl => ?_)
  exact h _ _ _ _ _ _ _ _ _ _ _ _ _ _ _ _ C w (lv_sub hl [2, 3, 4, 1, 0] rfl)
theorem e_X8_farOf (d : Nat) (x1 : Int32) (x2 : Int32) {σ : tk_S} {Q : Int32 → tk_S → Prop} (h : g_X8_farOf d 0 [(0, aN 132), (1, aI x1), (2, aI x2)] σ Q) : p_X8_farOf d [aN 132, aI x1, aI x2] σ Q := tk_entry (by decide) rfl (fun _ => Nat.le_of_ble_eq_true rfl) (fun _ => rfl) h
abbrev g_X8_far (d pc : Nat) (vals : List (Nat × tk_V)) (σ : tk_S) (Q : Int32 → tk_S → Prop) : Prop := tk_G RX8 cX8_far 3 (some .int) d pc vals σ (tk_i Q)
set_option maxHeartbeats 4000000 in
set_option maxRecDepth 100000 in
theorem b_X8_far_0 (d : Nat) (x1 : Int32) (x2 : Int32) (σ : tk_S) (Q : Int32 → tk_S → Prop) (h : p_X8_isShape d [aN 132, aI x1] σ (fun y3 σ2 => (y3 = 0 → Q (-1) σ2) ∧ (¬ y3 = 0 → p_X8_isShape d [aN 132, aI x2] σ2 (fun y7 σ6 => (y7 = 0 → Q (-1) σ6) ∧ (¬ y7 = 0 → p_X8_farOf d [aN 132, aI x1, aI x2] σ6 (fun y11 σ10 => Q y11 σ10)))))) : g_X8_far (d + 1) 0 [(0, aN 132), (1, aI x1), (2, aI x2)] σ Q := by
  intro p l e s m args below meth c D cy ad base H locs ls C w hl
  obtain ⟨hx, hb, hml, hown, hts, hr, hlk⟩ := id C
  have hl : lv_has ls 3 [(0, .ref (ad 132)), (1, .int x1), (2, .int x2)] := hl
  refine lv_aload_n hx hb dX8_far_0 rfl (lv_at hl 0 rfl) ?_
  refine lv_iload_n hx hb dX8_far_1 rfl (lv_at hl 1 rfl) ?_
  refine tk_cV C w (k := 132) rfl rfl (as := [aI x1]) (rest := []) mw_314 mw_5 mw_311 mw_312 mw_313 hd_X8_isShape (by decide) hl.1 (Nat.le_of_ble_eq_true rfl) rfl dX8_far_2 h (fun r1 σ2 H locs hq w => ?_)
  obtain ⟨y3, rfl, h⟩ := hq
  refine W.eq (g2 := F0 m 5 ls [.int y3]) rfl ?_
  refine lv_if_eq (tgt := 25) hx hb dX8_far_5 (by decide) (fun c4 => ?_) (fun c4 => ?_)
  · have h := h.1 c4
    refine lv_iconst (v := (-1)) hx hb dX8_far_25 (by decide) ?_
    exact tk_reti C w dX8_far_26 h
  · have h := h.2 c4
    refine lv_aload_n hx hb dX8_far_8 rfl (lv_at hl 0 rfl) ?_
    refine lv_iload_n hx hb dX8_far_9 rfl (lv_at hl 2 rfl) ?_
    refine tk_cV C w (k := 132) rfl rfl (as := [aI x2]) (rest := []) mw_314 mw_5 mw_311 mw_312 mw_313 hd_X8_isShape (by decide) hl.1 (Nat.le_of_ble_eq_true rfl) rfl dX8_far_10 h (fun r5 σ6 H locs hq w => ?_)
    obtain ⟨y7, rfl, h⟩ := hq
    refine W.eq (g2 := F0 m 13 ls [.int y7]) rfl ?_
    refine lv_if_eq (tgt := 25) hx hb dX8_far_13 (by decide) (fun c8 => ?_) (fun c8 => ?_)
    · have h := h.1 c8
      refine lv_iconst (v := (-1)) hx hb dX8_far_25 (by decide) ?_
      exact tk_reti C w dX8_far_26 h
    · have h := h.2 c8
      refine lv_aload_n hx hb dX8_far_16 rfl (lv_at hl 0 rfl) ?_
      refine lv_iload_n hx hb dX8_far_17 rfl (lv_at hl 1 rfl) ?_
      refine lv_iload_n hx hb dX8_far_18 rfl (lv_at hl 2 rfl) ?_
      refine tk_cV C w (k := 132) rfl rfl (as := [aI x1, aI x2]) (rest := []) mw_400 mw_5 mw_397 mw_398 mw_399 hd_X8_farOf (by decide) hl.1 (Nat.le_of_ble_eq_true rfl) rfl dX8_far_19 h (fun r9 σ10 H locs hq w => ?_)
      obtain ⟨y11, rfl, h⟩ := hq
      refine W.eq (g2 := F0 m 22 ls [.int y11]) rfl ?_
      refine lv_goto (tgt := 26) hx hb dX8_far_22 (by decide) ?_
      exact tk_reti C w dX8_far_26 h
theorem e_X8_far (d : Nat) (x1 : Int32) (x2 : Int32) {σ : tk_S} {Q : Int32 → tk_S → Prop} (h : g_X8_far d 0 [(0, aN 132), (1, aI x1), (2, aI x2)] σ Q) : p_X8_far d [aN 132, aI x1, aI x2] σ Q := tk_entry (by decide) rfl (fun _ => Nat.le_of_ble_eq_true rfl) (fun _ => rfl) h
abbrev g_X8_isBy (d pc : Nat) (vals : List (Nat × tk_V)) (σ : tk_S) (Q : Int32 → tk_S → Prop) : Prop := tk_G RX8 cX8_isBy 16 (some .boolean) d pc vals σ (tk_i Q)
set_option maxHeartbeats 4000000 in
set_option maxRecDepth 100000 in
theorem b_X8_isBy_0 (d : Nat) (x1 : Int32) (x2 : Int32) (x3 : Int32) (x4 : Int32) (x5 : Int32) (σ : tk_S) (Q : Int32 → tk_S → Prop) (h : vp_in ((8 * x1) + x2) 96 ∧ (∀ z2 : Int32, z2 = σ.1 138 (Int32.toNatClampNeg ((8 * x1) + x2)) → (vp_in ((8 * x1) + x2) 96 ∧ (∀ z4 : Int32, z4 = σ.1 139 (Int32.toNatClampNeg ((8 * x1) + x2)) → (vp_in ((8 * x1) + x3) 96 ∧ (∀ z6 : Int32, z6 = (σ.1 138 (Int32.toNatClampNeg ((8 * x1) + x3))) - z2 → (vp_in ((8 * x1) + x3) 96 ∧ (∀ z8 : Int32, z8 = (σ.1 139 (Int32.toNatClampNeg ((8 * x1) + x3))) - z4 → (vp_in ((8 * x1) + x4) 96 ∧ (∀ z10 : Int32, z10 = (σ.1 138 (Int32.toNatClampNeg ((8 * x1) + x4))) - z2 → (vp_in ((8 * x1) + x4) 96 ∧ (∀ z12 : Int32, z12 = (σ.1 139 (Int32.toNatClampNeg ((8 * x1) + x4))) - z4 → (∀ z13 : Int32, z13 = (z6 * z6) + (z8 * z8) → (∀ z14 : Int32, z14 = (z6 * z10) + (z8 * z12) → ((0 < z14 → (z14 < z13 → ∀ z17 : Int64, z17 = Int32.toInt64 ((z6 * z12) - (z8 * z10)) → ((0 < (lg_cmp (z17 * z17) (((Int32.toInt64 x5) * (Int32.toInt64 x5)) * (Int32.toInt64 z13))) → Q 0 σ) ∧ (¬ 0 < (lg_cmp (z17 * z17) (((Int32.toInt64 x5) * (Int32.toInt64 x5)) * (Int32.toInt64 z13))) → Q 1 σ))) ∧ (¬ z14 < z13 → ((x5 * x5) < (((z10 - z6) * (z10 - z6)) + ((z12 - z8) * (z12 - z8))) → Q 0 σ) ∧ (¬ (x5 * x5) < (((z10 - z6) * (z10 - z6)) + ((z12 - z8) * (z12 - z8))) → Q 1 σ))) ∧ (¬ 0 < z14 → ((x5 * x5) < ((z10 * z10) + (z12 * z12)) → Q 0 σ) ∧ (¬ (x5 * x5) < ((z10 * z10) + (z12 * z12)) → Q 1 σ))))))))))))))))) : g_X8_isBy d 0 [(0, aN 132), (1, aI x1), (2, aI x2), (3, aI x3), (4, aI x4), (5, aI x5)] σ Q := by
  intro p l e s m args below meth c D cy ad base H locs ls C w hl
  obtain ⟨hx, hb, hml, hown, hts, hr, hlk⟩ := id C
  have hl : lv_has ls 16 [(0, .ref (ad 132)), (1, .int x1), (2, .int x2), (3, .int x3), (4, .int x4), (5, .int x5)] := hl
  refine lv_aload_n hx hb dX8_isBy_0 rfl (lv_at hl 0 rfl) ?_
  refine tk_get (k := 132) (v := .ref (ad 138)) hx hb hts hown w rfl rfl inlX8 8 (by decide) mw_106 rfl dX8_isBy_1 ?_
  refine lv_bipush (v := 8) hx hb dX8_isBy_4 (by decide) ?_
  refine lv_iload_n hx hb dX8_isBy_6 rfl (lv_at hl 1 rfl) ?_
  refine lv_imul hx hb dX8_isBy_7 ?_
  refine lv_iload_n hx hb dX8_isBy_8 rfl (lv_at hl 2 rfl) ?_
  refine lv_iadd hx hb dX8_isBy_9 ?_
  obtain ⟨hi1, h⟩ := h
  refine tk_iald (k := 138) hx hb w rfl hi1 dX8_isBy_10 ?_
  refine lv_topi (fun z2 e_z2 => ?_)
  have h := h z2 e_z2
  refine lv_istore (lv' := [(6, .int z2), (0, .ref (ad 132)), (1, .int x1), (2, .int x2), (3, .int x3), (4, .int x4), (5, .int x5)]) hx hb dX8_isBy_11 hl (by decide) rfl (fun ls hl => ?_)
  refine lv_aload_n hx hb dX8_isBy_13 rfl (lv_at hl 1 rfl) ?_
  refine tk_get (k := 132) (v := .ref (ad 139)) hx hb hts hown w rfl rfl inlX8 9 (by decide) mw_107 rfl dX8_isBy_14 ?_
  refine lv_bipush (v := 8) hx hb dX8_isBy_17 (by decide) ?_
  refine lv_iload_n hx hb dX8_isBy_19 rfl (lv_at hl 2 rfl) ?_
  refine lv_imul hx hb dX8_isBy_20 ?_
  refine lv_iload_n hx hb dX8_isBy_21 rfl (lv_at hl 3 rfl) ?_
  refine lv_iadd hx hb dX8_isBy_22 ?_
  obtain ⟨hi3, h⟩ := h
  refine tk_iald (k := 139) hx hb w rfl hi3 dX8_isBy_23 ?_
  refine lv_topi (fun z4 e_z4 => ?_)
  have h := h z4 e_z4
  refine lv_istore (lv' := [(7, .int z4), (6, .int z2), (0, .ref (ad 132)), (1, .int x1), (2, .int x2), (3, .int x3), (4, .int x4), (5, .int x5)]) hx hb dX8_isBy_24 hl (by decide) rfl (fun ls hl => ?_)
  refine lv_aload_n hx hb dX8_isBy_26 rfl (lv_at hl 2 rfl) ?_
  refine tk_get (k := 132) (v := .ref (ad 138)) hx hb hts hown w rfl rfl inlX8 8 (by decide) mw_106 rfl dX8_isBy_27 ?_
  refine lv_bipush (v := 8) hx hb dX8_isBy_30 (by decide) ?_
  refine lv_iload_n hx hb dX8_isBy_32 rfl (lv_at hl 3 rfl) ?_
  refine lv_imul hx hb dX8_isBy_33 ?_
  refine lv_iload_n hx hb dX8_isBy_34 rfl (lv_at hl 5 rfl) ?_
  refine lv_iadd hx hb dX8_isBy_35 ?_
  obtain ⟨hi5, h⟩ := h
  refine tk_iald (k := 138) hx hb w rfl hi5 dX8_isBy_36 ?_
  refine lv_iload hx hb dX8_isBy_37 (lv_at hl 1 rfl) ?_
  refine lv_isub hx hb dX8_isBy_39 ?_
  refine lv_topi (fun z6 e_z6 => ?_)
  have h := h z6 e_z6
  refine lv_istore (lv' := [(8, .int z6), (7, .int z4), (6, .int z2), (0, .ref (ad 132)), (1, .int x1), (2, .int x2), (3, .int x3), (4, .int x4), (5, .int x5)]) hx hb dX8_isBy_40 hl (by decide) rfl (fun ls hl => ?_)
  refine lv_aload_n hx hb dX8_isBy_42 rfl (lv_at hl 3 rfl) ?_
  refine tk_get (k := 132) (v := .ref (ad 139)) hx hb hts hown w rfl rfl inlX8 9 (by decide) mw_107 rfl dX8_isBy_43 ?_
  refine lv_bipush (v := 8) hx hb dX8_isBy_46 (by decide) ?_
  refine lv_iload_n hx hb dX8_isBy_48 rfl (lv_at hl 4 rfl) ?_
  refine lv_imul hx hb dX8_isBy_49 ?_
  refine lv_iload_n hx hb dX8_isBy_50 rfl (lv_at hl 6 rfl) ?_
  refine lv_iadd hx hb dX8_isBy_51 ?_
  obtain ⟨hi7, h⟩ := h
  refine tk_iald (k := 139) hx hb w rfl hi7 dX8_isBy_52 ?_
  refine lv_iload hx hb dX8_isBy_53 (lv_at hl 1 rfl) ?_
  refine lv_isub hx hb dX8_isBy_55 ?_
  refine lv_topi (fun z8 e_z8 => ?_)
  have h := h z8 e_z8
  refine lv_istore (lv' := [(9, .int z8), (8, .int z6), (7, .int z4), (6, .int z2), (0, .ref (ad 132)), (1, .int x1), (2, .int x2), (3, .int x3), (4, .int x4), (5, .int x5)]) hx hb dX8_isBy_56 hl (by decide) rfl (fun ls hl => ?_)
  refine lv_aload_n hx hb dX8_isBy_58 rfl (lv_at hl 4 rfl) ?_
  refine tk_get (k := 132) (v := .ref (ad 138)) hx hb hts hown w rfl rfl inlX8 8 (by decide) mw_106 rfl dX8_isBy_59 ?_
  refine lv_bipush (v := 8) hx hb dX8_isBy_62 (by decide) ?_
  refine lv_iload_n hx hb dX8_isBy_64 rfl (lv_at hl 5 rfl) ?_
  refine lv_imul hx hb dX8_isBy_65 ?_
  refine lv_iload hx hb dX8_isBy_66 (lv_at hl 8 rfl) ?_
  refine lv_iadd hx hb dX8_isBy_68 ?_
  obtain ⟨hi9, h⟩ := h
  refine tk_iald (k := 138) hx hb w rfl hi9 dX8_isBy_69 ?_
  refine lv_iload hx hb dX8_isBy_70 (lv_at hl 3 rfl) ?_
  refine lv_isub hx hb dX8_isBy_72 ?_
  refine lv_topi (fun z10 e_z10 => ?_)
  have h := h z10 e_z10
  refine lv_istore (lv' := [(10, .int z10), (9, .int z8), (8, .int z6), (7, .int z4), (6, .int z2), (0, .ref (ad 132)), (1, .int x1), (2, .int x2), (3, .int x3), (4, .int x4), (5, .int x5)]) hx hb dX8_isBy_73 hl (by decide) rfl (fun ls hl => ?_)
  refine lv_aload_n hx hb dX8_isBy_75 rfl (lv_at hl 5 rfl) ?_
  refine tk_get (k := 132) (v := .ref (ad 139)) hx hb hts hown w rfl rfl inlX8 9 (by decide) mw_107 rfl dX8_isBy_76 ?_
  refine lv_bipush (v := 8) hx hb dX8_isBy_79 (by decide) ?_
  refine lv_iload_n hx hb dX8_isBy_81 rfl (lv_at hl 6 rfl) ?_
  refine lv_imul hx hb dX8_isBy_82 ?_
  refine lv_iload hx hb dX8_isBy_83 (lv_at hl 9 rfl) ?_
  refine lv_iadd hx hb dX8_isBy_85 ?_
  obtain ⟨hi11, h⟩ := h
  refine tk_iald (k := 139) hx hb w rfl hi11 dX8_isBy_86 ?_
  refine lv_iload hx hb dX8_isBy_87 (lv_at hl 3 rfl) ?_
  refine lv_isub hx hb dX8_isBy_89 ?_
  refine lv_topi (fun z12 e_z12 => ?_)
  have h := h z12 e_z12
  refine lv_istore (lv' := [(11, .int z12), (10, .int z10), (9, .int z8), (8, .int z6), (7, .int z4), (6, .int z2), (0, .ref (ad 132)), (1, .int x1), (2, .int x2), (3, .int x3), (4, .int x4), (5, .int x5)]) hx hb dX8_isBy_90 hl (by decide) rfl (fun ls hl => ?_)
  refine lv_iload hx hb dX8_isBy_92 (lv_at hl 3 rfl) ?_
  refine lv_iload hx hb dX8_isBy_94 (lv_at hl 3 rfl) ?_
  refine lv_imul hx hb dX8_isBy_96 ?_
  refine lv_iload hx hb dX8_isBy_97 (lv_at hl 2 rfl) ?_
  refine lv_iload hx hb dX8_isBy_99 (lv_at hl 2 rfl) ?_
  refine lv_imul hx hb dX8_isBy_101 ?_
  refine lv_iadd hx hb dX8_isBy_102 ?_
  refine lv_topi (fun z13 e_z13 => ?_)
  have h := h z13 e_z13
  refine lv_istore (lv' := [(12, .int z13), (11, .int z12), (10, .int z10), (9, .int z8), (8, .int z6), (7, .int z4), (6, .int z2), (0, .ref (ad 132)), (1, .int x1), (2, .int x2), (3, .int x3), (4, .int x4), (5, .int x5)]) hx hb dX8_isBy_103 hl (by decide) rfl (fun ls hl => ?_)
  refine lv_iload hx hb dX8_isBy_105 (lv_at hl 4 rfl) ?_
  refine lv_iload hx hb dX8_isBy_107 (lv_at hl 2 rfl) ?_
  refine lv_imul hx hb dX8_isBy_109 ?_
  refine lv_iload hx hb dX8_isBy_110 (lv_at hl 3 rfl) ?_
  refine lv_iload hx hb dX8_isBy_112 (lv_at hl 1 rfl) ?_
  refine lv_imul hx hb dX8_isBy_114 ?_
  refine lv_iadd hx hb dX8_isBy_115 ?_
  refine lv_topi (fun z14 e_z14 => ?_)
  have h := h z14 e_z14
  refine lv_istore (lv' := [(13, .int z14), (12, .int z13), (11, .int z12), (10, .int z10), (9, .int z8), (8, .int z6), (7, .int z4), (6, .int z2), (0, .ref (ad 132)), (1, .int x1), (2, .int x2), (3, .int x3), (4, .int x4), (5, .int x5)]) hx hb dX8_isBy_116 hl (by decide) rfl (fun ls hl => ?_)
  refine lv_iload hx hb dX8_isBy_118 (lv_at hl 0 rfl) ?_
  refine lv_if_gt (tgt := 148) hx hb dX8_isBy_120 (by decide) (fun c15 => ?_) (fun c15 => ?_)
  · have h := h.1 c15
    refine lv_iload hx hb dX8_isBy_148 (lv_at hl 0 rfl) ?_
    refine lv_iload hx hb dX8_isBy_150 (lv_at hl 1 rfl) ?_
    refine lv_icmp_lt (tgt := 192) hx hb dX8_isBy_152 (by decide) (fun c16 => ?_) (fun c16 => ?_)
    · have h := h.1 c16
      refine lv_iload hx hb dX8_isBy_192 (lv_at hl 5 rfl) ?_
      refine lv_iload hx hb dX8_isBy_194 (lv_at hl 2 rfl) ?_
      refine lv_imul hx hb dX8_isBy_196 ?_
      refine lv_iload hx hb dX8_isBy_197 (lv_at hl 4 rfl) ?_
      refine lv_iload hx hb dX8_isBy_199 (lv_at hl 3 rfl) ?_
      refine lv_imul hx hb dX8_isBy_201 ?_
      refine lv_isub hx hb dX8_isBy_202 ?_
      refine lv_i2l hx hb dX8_isBy_203 rfl ?_
      refine lv_topl (fun z17 e_z17 => ?_)
      have h := h z17 e_z17
      refine lv_lstore (lv' := [(14, .long z17), (13, .int z14), (12, .int z13), (11, .int z12), (10, .int z10), (9, .int z8), (8, .int z6), (7, .int z4), (6, .int z2), (0, .ref (ad 132)), (1, .int x1), (2, .int x2), (3, .int x3), (4, .int x4), (5, .int x5)]) hx hb dX8_isBy_204 hl (by decide) rfl (fun ls hl => ?_)
      refine lv_lload hx hb dX8_isBy_206 (lv_at hl 0 rfl) ?_
      refine lv_lload hx hb dX8_isBy_208 (lv_at hl 0 rfl) ?_
      refine lv_lmul hx hb dX8_isBy_210 ?_
      refine lv_iload hx hb dX8_isBy_211 (lv_at hl 14 rfl) ?_
      refine lv_i2l hx hb dX8_isBy_213 rfl ?_
      refine lv_iload hx hb dX8_isBy_214 (lv_at hl 14 rfl) ?_
      refine lv_i2l hx hb dX8_isBy_216 rfl ?_
      refine lv_lmul hx hb dX8_isBy_217 ?_
      refine lv_iload hx hb dX8_isBy_218 (lv_at hl 2 rfl) ?_
      refine lv_i2l hx hb dX8_isBy_220 rfl ?_
      refine lv_lmul hx hb dX8_isBy_221 ?_
      refine W.lcmp hx hb dX8_isBy_222 ?_
      refine lv_if_gt (tgt := 230) hx hb dX8_isBy_223 (by decide) (fun c18 => ?_) (fun c18 => ?_)
      · have h := h.1 c18
        refine lv_iconst (v := 0) hx hb dX8_isBy_230 (by decide) ?_
        exact tk_retz C w dX8_isBy_231 rfl h
      · have h := h.2 c18
        refine lv_iconst (v := 1) hx hb dX8_isBy_226 (by decide) ?_
        refine lv_goto (tgt := 231) hx hb dX8_isBy_227 (by decide) ?_
        exact tk_retz C w dX8_isBy_231 rfl h
    · have h := h.2 c16
      refine lv_iload hx hb dX8_isBy_155 (lv_at hl 3 rfl) ?_
      refine lv_iload hx hb dX8_isBy_157 (lv_at hl 5 rfl) ?_
      refine lv_isub hx hb dX8_isBy_159 ?_
      refine lv_iload hx hb dX8_isBy_160 (lv_at hl 3 rfl) ?_
      refine lv_iload hx hb dX8_isBy_162 (lv_at hl 5 rfl) ?_
      refine lv_isub hx hb dX8_isBy_164 ?_
      refine lv_imul hx hb dX8_isBy_165 ?_
      refine lv_iload hx hb dX8_isBy_166 (lv_at hl 2 rfl) ?_
      refine lv_iload hx hb dX8_isBy_168 (lv_at hl 4 rfl) ?_
      refine lv_isub hx hb dX8_isBy_170 ?_
      refine lv_iload hx hb dX8_isBy_171 (lv_at hl 2 rfl) ?_
      refine lv_iload hx hb dX8_isBy_173 (lv_at hl 4 rfl) ?_
      refine lv_isub hx hb dX8_isBy_175 ?_
      refine lv_imul hx hb dX8_isBy_176 ?_
      refine lv_iadd hx hb dX8_isBy_177 ?_
      refine lv_iload hx hb dX8_isBy_178 (lv_at hl 13 rfl) ?_
      refine lv_iload hx hb dX8_isBy_180 (lv_at hl 13 rfl) ?_
      refine lv_imul hx hb dX8_isBy_182 ?_
      refine lv_icmp_gt (tgt := 190) hx hb dX8_isBy_183 (by decide) (fun c19 => ?_) (fun c19 => ?_)
      · have h := h.1 c19
        refine lv_iconst (v := 0) hx hb dX8_isBy_190 (by decide) ?_
        exact tk_retz C w dX8_isBy_191 rfl h
      · have h := h.2 c19
        refine lv_iconst (v := 1) hx hb dX8_isBy_186 (by decide) ?_
        refine lv_goto (tgt := 191) hx hb dX8_isBy_187 (by decide) ?_
        exact tk_retz C w dX8_isBy_191 rfl h
  · have h := h.2 c15
    refine lv_iload hx hb dX8_isBy_123 (lv_at hl 3 rfl) ?_
    refine lv_iload hx hb dX8_isBy_125 (lv_at hl 3 rfl) ?_
    refine lv_imul hx hb dX8_isBy_127 ?_
    refine lv_iload hx hb dX8_isBy_128 (lv_at hl 2 rfl) ?_
    refine lv_iload hx hb dX8_isBy_130 (lv_at hl 2 rfl) ?_
    refine lv_imul hx hb dX8_isBy_132 ?_
    refine lv_iadd hx hb dX8_isBy_133 ?_
    refine lv_iload hx hb dX8_isBy_134 (lv_at hl 13 rfl) ?_
    refine lv_iload hx hb dX8_isBy_136 (lv_at hl 13 rfl) ?_
    refine lv_imul hx hb dX8_isBy_138 ?_
    refine lv_icmp_gt (tgt := 146) hx hb dX8_isBy_139 (by decide) (fun c20 => ?_) (fun c20 => ?_)
    · have h := h.1 c20
      refine lv_iconst (v := 0) hx hb dX8_isBy_146 (by decide) ?_
      exact tk_retz C w dX8_isBy_147 rfl h
    · have h := h.2 c20
      refine lv_iconst (v := 1) hx hb dX8_isBy_142 (by decide) ?_
      refine lv_goto (tgt := 147) hx hb dX8_isBy_143 (by decide) ?_
      exact tk_retz C w dX8_isBy_147 rfl h
theorem e_X8_isBy (d : Nat) (x1 : Int32) (x2 : Int32) (x3 : Int32) (x4 : Int32) (x5 : Int32) {σ : tk_S} {Q : Int32 → tk_S → Prop} (h : g_X8_isBy d 0 [(0, aN 132), (1, aI x1), (2, aI x2), (3, aI x3), (4, aI x4), (5, aI x5)] σ Q) : p_X8_isBy d [aN 132, aI x1, aI x2, aI x3, aI x4, aI x5] σ Q := tk_entry (by decide) rfl (fun _ => Nat.le_of_ble_eq_true rfl) (fun _ => rfl) h
abbrev g_X8_isStep (d pc : Nat) (vals : List (Nat × tk_V)) (σ : tk_S) (Q : Int32 → tk_S → Prop) : Prop := tk_G RX8 cX8_isStep 7 (some .boolean) d pc vals σ (tk_i Q)
set_option maxHeartbeats 4000000 in
set_option maxRecDepth 100000 in
theorem b_X8_isStep_8 (d : Nat) (x1 : Int32) (x2 : Int32) (x3 : Int32) (x4 : Int32) (x5 : Int32) (x6 : Int32) (σ : tk_S) (Q : Int32 → tk_S → Prop) (h : (x3 ≤ x6 → narrow .boolean (.int x5) = .int x5 ∧ Q x5 σ) ∧ (¬ x3 ≤ x6 → (x5 = 0 → g_X8_isStep (d + 1) 8 [(0, aN 132), (1, aI x1), (2, aI x2), (3, aI x3), (4, aI x4), (5, aI 0), (6, aI (x6 + 1))] σ Q) ∧ (¬ x5 = 0 → p_X8_isBy d [aN 132, aI x1, aI x2, aI x3, aI x6, aI x4] σ (fun y5 σ4 => (y5 = 0 → g_X8_isStep (d + 1) 8 [(0, aN 132), (1, aI x1), (2, aI x2), (3, aI x3), (4, aI x4), (5, aI 0), (6, aI (x6 + 1))] σ4 Q) ∧ (¬ y5 = 0 → g_X8_isStep (d + 1) 8 [(0, aN 132), (1, aI x1), (2, aI x2), (3, aI x3), (4, aI x4), (5, aI 1), (6, aI (x6 + 1))] σ4 Q))))) : g_X8_isStep (d + 1) 8 [(0, aN 132), (1, aI x1), (2, aI x2), (3, aI x3), (4, aI x4), (5, aI x5), (6, aI x6)] σ Q := by
  intro p l e s m args below meth c D cy ad base H locs ls C w hl
  obtain ⟨hx, hb, hml, hown, hts, hr, hlk⟩ := id C
  have hl : lv_has ls 7 [(0, .ref (ad 132)), (1, .int x1), (2, .int x2), (3, .int x3), (4, .int x4), (5, .int x5), (6, .int x6)] := hl
  refine lv_iload hx hb dX8_isStep_8 (lv_at hl 6 rfl) ?_
  refine lv_iload_n hx hb dX8_isStep_10 rfl (lv_at hl 3 rfl) ?_
  refine lv_icmp_ge (tgt := 46) hx hb dX8_isStep_11 (by decide) (fun c1 => ?_) (fun c1 => ?_)
  · have h := h.1 c1
    refine lv_iload hx hb dX8_isStep_46 (lv_at hl 5 rfl) ?_
    exact tk_retz C w dX8_isStep_48 h.1 h.2
  · have h := h.2 c1
    refine lv_iload hx hb dX8_isStep_14 (lv_at hl 5 rfl) ?_
    refine lv_if_eq (tgt := 37) hx hb dX8_isStep_16 (by decide) (fun c2 => ?_) (fun c2 => ?_)
    · have h := h.1 c2
      refine lv_iconst (v := 0) hx hb dX8_isStep_37 (by decide) ?_
      refine lv_istore (lv' := [(5, .int 0), (0, .ref (ad 132)), (1, .int x1), (2, .int x2), (3, .int x3), (4, .int x4), (6, .int x6)]) hx hb dX8_isStep_38 hl (by decide) rfl (fun ls hl => ?_)
      refine lv_iinc (v := x6 + 1) (lv' := [(6, .int (x6 + 1)), (5, .int 0), (0, .ref (ad 132)), (1, .int x1), (2, .int x2), (3, .int x3), (4, .int x4)]) hx hb dX8_isStep_40 hl (k := 6) rfl rfl (by decide) rfl (fun ls hl => ?_)
      refine lv_goto (tgt := 8) hx hb dX8_isStep_43 (by decide) ?_
      exact h _ _ _ _ _ _ _ _ _ _ _ _ _ _ _ _ C w (lv_sub hl [2, 3, 4, 5, 6, 1, 0] rfl)
    · have h := h.2 c2
      refine lv_aload_n hx hb dX8_isStep_19 rfl (lv_at hl 0 rfl) ?_
      refine lv_iload_n hx hb dX8_isStep_20 rfl (lv_at hl 1 rfl) ?_
      refine lv_iload_n hx hb dX8_isStep_21 rfl (lv_at hl 2 rfl) ?_
      refine lv_iload_n hx hb dX8_isStep_22 rfl (lv_at hl 3 rfl) ?_
      refine lv_iload hx hb dX8_isStep_23 (lv_at hl 6 rfl) ?_
      refine lv_iload hx hb dX8_isStep_25 (lv_at hl 4 rfl) ?_
      refine tk_cV C w (k := 132) rfl rfl (as := [aI x1, aI x2, aI x3, aI x6, aI x4]) (rest := []) mw_450 mw_5 mw_447 mw_448 mw_449 hd_X8_isBy (by decide) hl.1 (Nat.le_of_ble_eq_true rfl) rfl dX8_isStep_27 h (fun r3 σ4 H locs hq w => ?_)
      obtain ⟨y5, rfl, h⟩ := hq
      refine W.eq (g2 := F0 m 30 ls [.int y5]) rfl ?_
      refine lv_if_eq (tgt := 37) hx hb dX8_isStep_30 (by decide) (fun c6 => ?_) (fun c6 => ?_)
      · have h := h.1 c6
        refine lv_iconst (v := 0) hx hb dX8_isStep_37 (by decide) ?_
        refine lv_istore (lv' := [(5, .int 0), (0, .ref (ad 132)), (1, .int x1), (2, .int x2), (3, .int x3), (4, .int x4), (6, .int x6)]) hx hb dX8_isStep_38 hl (by decide) rfl (fun ls hl => ?_)
        refine lv_iinc (v := x6 + 1) (lv' := [(6, .int (x6 + 1)), (5, .int 0), (0, .ref (ad 132)), (1, .int x1), (2, .int x2), (3, .int x3), (4, .int x4)]) hx hb dX8_isStep_40 hl (k := 6) rfl rfl (by decide) rfl (fun ls hl => ?_)
        refine lv_goto (tgt := 8) hx hb dX8_isStep_43 (by decide) ?_
        exact h _ _ _ _ _ _ _ _ _ _ _ _ _ _ _ _ C w (lv_sub hl [2, 3, 4, 5, 6, 1, 0] rfl)
      · have h := h.2 c6
        refine lv_iconst (v := 1) hx hb dX8_isStep_33 (by decide) ?_
        refine lv_goto (tgt := 38) hx hb dX8_isStep_34 (by decide) ?_
        refine lv_istore (lv' := [(5, .int 1), (0, .ref (ad 132)), (1, .int x1), (2, .int x2), (3, .int x3), (4, .int x4), (6, .int x6)]) hx hb dX8_isStep_38 hl (by decide) rfl (fun ls hl => ?_)
        refine lv_iinc (v := x6 + 1) (lv' := [(6, .int (x6 + 1)), (5, .int 1), (0, .ref (ad 132)), (1, .int x1), (2, .int x2), (3, .int x3), (4, .int x4)]) hx hb dX8_isStep_40 hl (k := 6) rfl rfl (by decide) rfl (fun ls hl => ?_)
        refine lv_goto (tgt := 8) hx hb dX8_isStep_43 (by decide) ?_
        exact h _ _ _ _ _ _ _ _ _ _ _ _ _ _ _ _ C w (lv_sub hl [2, 3, 4, 5, 6, 1, 0] rfl)
set_option maxHeartbeats 4000000 in
set_option maxRecDepth 100000 in
theorem b_X8_isStep_0 (d : Nat) (x1 : Int32) (x2 : Int32) (x3 : Int32) (x4 : Int32) (σ : tk_S) (Q : Int32 → tk_S → Prop) (h : g_X8_isStep (d + 1) 8 [(0, aN 132), (1, aI x1), (2, aI x2), (3, aI x3), (4, aI x4), (5, aI 1), (6, aI (x2 + 1))] σ Q) : g_X8_isStep (d + 1) 0 [(0, aN 132), (1, aI x1), (2, aI x2), (3, aI x3), (4, aI x4)] σ Q := by
  intro p l e s m args below meth c D cy ad base H locs ls C w hl
  obtain ⟨hx, hb, hml, hown, hts, hr, hlk⟩ := id C
  have hl : lv_has ls 7 [(0, .ref (ad 132)), (1, .int x1), (2, .int x2), (3, .int x3), (4, .int x4)] := hl
  refine lv_iconst (v := 1) hx hb dX8_isStep_0 (by decide) ?_
  refine lv_istore (lv' := [(5, .int 1), (0, .ref (ad 132)), (1, .int x1), (2, .int x2), (3, .int x3), (4, .int x4)]) hx hb dX8_isStep_1 hl (by decide) rfl (fun ls hl => ?_)
  refine lv_iload_n hx hb dX8_isStep_3 rfl (lv_at hl 3 rfl) ?_
  refine lv_iconst (v := 1) hx hb dX8_isStep_4 (by decide) ?_
  refine lv_iadd hx hb dX8_isStep_5 ?_
  refine lv_istore (lv' := [(6, .int (x2 + 1)), (5, .int 1), (0, .ref (ad 132)), (1, .int x1), (2, .int x2), (3, .int x3), (4, .int x4)]) hx hb dX8_isStep_6 hl (by decide) rfl (fun ls hl => ?_)
  exact h _ _ _ _ _ _ _ _ _ _ _ _ _ _ _ _ C w (lv_sub hl [2, 3, 4, 5, 6, 1, 0] rfl)
theorem e_X8_isStep (d : Nat) (x1 : Int32) (x2 : Int32) (x3 : Int32) (x4 : Int32) {σ : tk_S} {Q : Int32 → tk_S → Prop} (h : g_X8_isStep d 0 [(0, aN 132), (1, aI x1), (2, aI x2), (3, aI x3), (4, aI x4)] σ Q) : p_X8_isStep d [aN 132, aI x1, aI x2, aI x3, aI x4] σ Q := tk_entry (by decide) rfl (fun _ => Nat.le_of_ble_eq_true rfl) (fun _ => rfl) h
abbrev g_X8_bits (d pc : Nat) (vals : List (Nat × tk_V)) (σ : tk_S) (Q : Int32 → tk_S → Prop) : Prop := tk_G RX8 cX8_bits 3 (some .int) d pc vals σ (tk_i Q)
set_option maxHeartbeats 4000000 in
set_option maxRecDepth 100000 in
theorem b_X8_bits_4 (d : Nat) (x0 : Int32) (x1 : Int32) (x2 : Int32) (σ : tk_S) (Q : Int32 → tk_S → Prop) (h : (12 ≤ x2 → Q x1 σ) ∧ (¬ 12 ≤ x2 → ∀ z2 : Int32, z2 = x1 + ((x0 >>> (x2 &&& 31)) &&& 1) → (g_X8_bits d 4 [(0, aI x0), (1, aI z2), (2, aI (x2 + 1))] σ Q))) : g_X8_bits d 4 [(0, aI x0), (1, aI x1), (2, aI x2)] σ Q := by
  intro p l e s m args below meth c D cy ad base H locs ls C w hl
  obtain ⟨hx, hb, hml, hown, hts, hr, hlk⟩ := id C
  have hl : lv_has ls 3 [(0, .int x0), (1, .int x1), (2, .int x2)] := hl
  refine lv_iload_n hx hb dX8_bits_4 rfl (lv_at hl 2 rfl) ?_
  refine lv_bipush (v := 12) hx hb dX8_bits_5 (by decide) ?_
  refine lv_icmp_ge (tgt := 24) hx hb dX8_bits_7 (by decide) (fun c1 => ?_) (fun c1 => ?_)
  · have h := h.1 c1
    refine lv_iload_n hx hb dX8_bits_24 rfl (lv_at hl 1 rfl) ?_
    exact tk_reti C w dX8_bits_25 h
  · have h := h.2 c1
    refine lv_iload_n hx hb dX8_bits_10 rfl (lv_at hl 1 rfl) ?_
    refine lv_iload_n hx hb dX8_bits_11 rfl (lv_at hl 0 rfl) ?_
    refine lv_iload_n hx hb dX8_bits_12 rfl (lv_at hl 2 rfl) ?_
    refine lv_ishr hx hb dX8_bits_13 ?_
    refine lv_iconst (v := 1) hx hb dX8_bits_14 (by decide) ?_
    refine lv_iand hx hb dX8_bits_15 ?_
    refine lv_iadd hx hb dX8_bits_16 ?_
    refine lv_topi (fun z2 e_z2 => ?_)
    have h := h z2 e_z2
    refine lv_istore_n (lv' := [(1, .int z2), (0, .int x0), (2, .int x2)]) hx hb dX8_bits_17 rfl hl (by decide) rfl (fun ls hl => ?_)
    refine lv_iinc (v := x2 + 1) (lv' := [(2, .int (x2 + 1)), (1, .int z2), (0, .int x0)]) hx hb dX8_bits_18 hl (k := 2) rfl rfl (by decide) rfl (fun ls hl => ?_)
    refine lv_goto (tgt := 4) hx hb dX8_bits_21 (by decide) ?_
    exact h _ _ _ _ _ _ _ _ _ _ _ _ _ _ _ _ C w (lv_sub hl [2, 1, 0] rfl)
set_option maxHeartbeats 4000000 in
set_option maxRecDepth 100000 in
theorem b_X8_bits_0 (d : Nat) (x0 : Int32) (σ : tk_S) (Q : Int32 → tk_S → Prop) (h : g_X8_bits d 4 [(0, aI x0), (1, aI 0), (2, aI 0)] σ Q) : g_X8_bits d 0 [(0, aI x0)] σ Q := by
  intro p l e s m args below meth c D cy ad base H locs ls C w hl
  obtain ⟨hx, hb, hml, hown, hts, hr, hlk⟩ := id C
  have hl : lv_has ls 3 [(0, .int x0)] := hl
  refine lv_iconst (v := 0) hx hb dX8_bits_0 (by decide) ?_
  refine lv_istore_n (lv' := [(1, .int 0), (0, .int x0)]) hx hb dX8_bits_1 rfl hl (by decide) rfl (fun ls hl => ?_)
  refine lv_iconst (v := 0) hx hb dX8_bits_2 (by decide) ?_
  refine lv_istore_n (lv' := [(2, .int 0), (1, .int 0), (0, .int x0)]) hx hb dX8_bits_3 rfl hl (by decide) rfl (fun ls hl => ?_)
  exact h _ _ _ _ _ _ _ _ _ _ _ _ _ _ _ _ C w (lv_sub hl [2, 1, 0] rfl)
theorem e_X8_bits (d : Nat) (x0 : Int32) {σ : tk_S} {Q : Int32 → tk_S → Prop} (h : g_X8_bits d 0 [(0, aI x0)] σ Q) : p_X8_bits d [aI x0] σ Q := tk_entry (by decide) rfl (fun _ => Nat.le_of_ble_eq_true rfl) (fun _ => rfl) h
abbrev g_X8_keeps (d pc : Nat) (vals : List (Nat × tk_V)) (σ : tk_S) (Q : Int32 → tk_S → Prop) : Prop := tk_G RX8 cX8_keeps 6 (some .boolean) d pc vals σ (tk_i Q)
set_option maxHeartbeats 4000000 in
set_option maxRecDepth 100000 in
theorem b_X8_keeps_6 (d : Nat) (x1 : Int32) (x2 : Int32) (x3 : Int32) (x4 : Int32) (x5 : Int32) (σ : tk_S) (Q : Int32 → tk_S → Prop) (h : vp_in x1 12 ∧ (((σ.1 137 (Int32.toNatClampNeg x1)) ≤ x5 → Q 1 σ) ∧ (¬ (σ.1 137 (Int32.toNatClampNeg x1)) ≤ x5 → (¬ ((x2 >>> (x5 &&& 31)) &&& 1) = 0 → p_X8_isStep d [aN 132, aI x1, aI x4, aI x5, aI x3] σ (fun y6 σ5 => (¬ y6 = 0 → g_X8_keeps (d + 1) 6 [(0, aN 132), (1, aI x1), (2, aI x2), (3, aI x3), (4, aI x5), (5, aI (x5 + 1))] σ5 Q) ∧ (y6 = 0 → Q 0 σ5))) ∧ (((x2 >>> (x5 &&& 31)) &&& 1) = 0 → g_X8_keeps (d + 1) 6 [(0, aN 132), (1, aI x1), (2, aI x2), (3, aI x3), (4, aI x4), (5, aI (x5 + 1))] σ Q)))) : g_X8_keeps (d + 1) 6 [(0, aN 132), (1, aI x1), (2, aI x2), (3, aI x3), (4, aI x4), (5, aI x5)] σ Q := by
  intro p l e s m args below meth c D cy ad base H locs ls C w hl
  obtain ⟨hx, hb, hml, hown, hts, hr, hlk⟩ := id C
  have hl : lv_has ls 6 [(0, .ref (ad 132)), (1, .int x1), (2, .int x2), (3, .int x3), (4, .int x4), (5, .int x5)] := hl
  refine lv_iload hx hb dX8_keeps_6 (lv_at hl 5 rfl) ?_
  refine lv_aload_n hx hb dX8_keeps_8 rfl (lv_at hl 0 rfl) ?_
  refine tk_get (k := 132) (v := .ref (ad 137)) hx hb hts hown w rfl rfl inlX8 7 (by decide) mw_105 rfl dX8_keeps_9 ?_
  refine lv_iload_n hx hb dX8_keeps_12 rfl (lv_at hl 1 rfl) ?_
  obtain ⟨hi1, h⟩ := h
  refine tk_iald (k := 137) hx hb w rfl hi1 dX8_keeps_13 ?_
  refine lv_icmp_ge (tgt := 54) hx hb dX8_keeps_14 (by decide) (fun c2 => ?_) (fun c2 => ?_)
  · have h := h.1 c2
    refine lv_iconst (v := 1) hx hb dX8_keeps_54 (by decide) ?_
    exact tk_retz C w dX8_keeps_55 rfl h
  · have h := h.2 c2
    refine lv_iload_n hx hb dX8_keeps_17 rfl (lv_at hl 2 rfl) ?_
    refine lv_iload hx hb dX8_keeps_18 (lv_at hl 5 rfl) ?_
    refine lv_ishr hx hb dX8_keeps_20 ?_
    refine lv_iconst (v := 1) hx hb dX8_keeps_21 (by decide) ?_
    refine lv_iand hx hb dX8_keeps_22 ?_
    refine lv_if_ne (tgt := 29) hx hb dX8_keeps_23 (by decide) (fun c3 => ?_) (fun c3 => ?_)
    · have h := h.1 c3
      refine lv_aload_n hx hb dX8_keeps_29 rfl (lv_at hl 0 rfl) ?_
      refine lv_iload_n hx hb dX8_keeps_30 rfl (lv_at hl 1 rfl) ?_
      refine lv_iload hx hb dX8_keeps_31 (lv_at hl 4 rfl) ?_
      refine lv_iload hx hb dX8_keeps_33 (lv_at hl 5 rfl) ?_
      refine lv_iload_n hx hb dX8_keeps_35 rfl (lv_at hl 3 rfl) ?_
      refine tk_cV C w (k := 132) rfl rfl (as := [aI x1, aI x4, aI x5, aI x3]) (rest := []) mw_446 mw_5 mw_443 mw_444 mw_445 hd_X8_isStep (by decide) hl.1 (Nat.le_of_ble_eq_true rfl) rfl dX8_keeps_36 h (fun r4 σ5 H locs hq w => ?_)
      obtain ⟨y6, rfl, h⟩ := hq
      refine W.eq (g2 := F0 m 39 ls [.int y6]) rfl ?_
      refine lv_if_ne (tgt := 44) hx hb dX8_keeps_39 (by decide) (fun c7 => ?_) (fun c7 => ?_)
      · have h := h.1 c7
        refine lv_iload hx hb dX8_keeps_44 (lv_at hl 5 rfl) ?_
        refine lv_istore (lv' := [(4, .int x5), (0, .ref (ad 132)), (1, .int x1), (2, .int x2), (3, .int x3), (5, .int x5)]) hx hb dX8_keeps_46 hl (by decide) rfl (fun ls hl => ?_)
        refine lv_iinc (v := x5 + 1) (lv' := [(5, .int (x5 + 1)), (4, .int x5), (0, .ref (ad 132)), (1, .int x1), (2, .int x2), (3, .int x3)]) hx hb dX8_keeps_48 hl (k := 5) rfl rfl (by decide) rfl (fun ls hl => ?_)
        refine lv_goto (tgt := 6) hx hb dX8_keeps_51 (by decide) ?_
        exact h _ _ _ _ _ _ _ _ _ _ _ _ _ _ _ _ C w (lv_sub hl [2, 3, 4, 5, 1, 0] rfl)
      · have h := h.2 c7
        refine lv_iconst (v := 0) hx hb dX8_keeps_42 (by decide) ?_
        exact tk_retz C w dX8_keeps_43 rfl h
    · have h := h.2 c3
      refine lv_goto (tgt := 48) hx hb dX8_keeps_26 (by decide) ?_
      refine lv_iinc (v := x5 + 1) (lv' := [(5, .int (x5 + 1)), (0, .ref (ad 132)), (1, .int x1), (2, .int x2), (3, .int x3), (4, .int x4)]) hx hb dX8_keeps_48 hl (k := 5) rfl rfl (by decide) rfl (fun ls hl => ?_)
      refine lv_goto (tgt := 6) hx hb dX8_keeps_51 (by decide) ?_
      exact h _ _ _ _ _ _ _ _ _ _ _ _ _ _ _ _ C w (lv_sub hl [1, 2, 3, 4, 5, 0] rfl)
set_option maxHeartbeats 4000000 in
set_option maxRecDepth 100000 in
theorem b_X8_keeps_0 (d : Nat) (x1 : Int32) (x2 : Int32) (x3 : Int32) (σ : tk_S) (Q : Int32 → tk_S → Prop) (h : g_X8_keeps (d + 1) 6 [(0, aN 132), (1, aI x1), (2, aI x2), (3, aI x3), (4, aI 0), (5, aI 1)] σ Q) : g_X8_keeps (d + 1) 0 [(0, aN 132), (1, aI x1), (2, aI x2), (3, aI x3)] σ Q := by
  intro p l e s m args below meth c D cy ad base H locs ls C w hl
  obtain ⟨hx, hb, hml, hown, hts, hr, hlk⟩ := id C
  have hl : lv_has ls 6 [(0, .ref (ad 132)), (1, .int x1), (2, .int x2), (3, .int x3)] := hl
  refine lv_iconst (v := 0) hx hb dX8_keeps_0 (by decide) ?_
  refine lv_istore (lv' := [(4, .int 0), (0, .ref (ad 132)), (1, .int x1), (2, .int x2), (3, .int x3)]) hx hb dX8_keeps_1 hl (by decide) rfl (fun ls hl => ?_)
  refine lv_iconst (v := 1) hx hb dX8_keeps_3 (by decide) ?_
  refine lv_istore (lv' := [(5, .int 1), (4, .int 0), (0, .ref (ad 132)), (1, .int x1), (2, .int x2), (3, .int x3)]) hx hb dX8_keeps_4 hl (by decide) rfl (fun ls hl => ?_)
  exact h _ _ _ _ _ _ _ _ _ _ _ _ _ _ _ _ C w (lv_sub hl [2, 3, 4, 5, 1, 0] rfl)
theorem e_X8_keeps (d : Nat) (x1 : Int32) (x2 : Int32) (x3 : Int32) {σ : tk_S} {Q : Int32 → tk_S → Prop} (h : g_X8_keeps d 0 [(0, aN 132), (1, aI x1), (2, aI x2), (3, aI x3)] σ Q) : p_X8_keeps d [aN 132, aI x1, aI x2, aI x3] σ Q := tk_entry (by decide) rfl (fun _ => Nat.le_of_ble_eq_true rfl) (fun _ => rfl) h
abbrev g_X8_isAhead (d pc : Nat) (vals : List (Nat × tk_V)) (σ : tk_S) (Q : Int32 → tk_S → Prop) : Prop := tk_G RX8 cX8_isAhead 3 (some .boolean) d pc vals σ (tk_i Q)
set_option maxHeartbeats 4000000 in
set_option maxRecDepth 100000 in
theorem b_X8_isAhead_27 (d : Nat) (x0 : Int32) (x2 : Int32) (σ : tk_S) (Q : Int32 → tk_S → Prop) (h : (12 ≤ x2 → Q 0 σ) ∧ (¬ 12 ≤ x2 → (¬ ((x0 >>> (x2 &&& 31)) &&& 1) = 1 → Q 0 σ) ∧ (((x0 >>> (x2 &&& 31)) &&& 1) = 1 → Q 1 σ))) : g_X8_isAhead d 27 [(0, aI x0), (2, aI x2)] σ Q := by
  intro p l e s m args below meth c D cy ad base H locs ls C w hl
  obtain ⟨hx, hb, hml, hown, hts, hr, hlk⟩ := id C
  have hl : lv_has ls 3 [(0, .int x0), (2, .int x2)] := hl
  refine lv_iload_n hx hb dX8_isAhead_27 rfl (lv_at hl 1 rfl) ?_
  refine lv_bipush (v := 12) hx hb dX8_isAhead_28 (by decide) ?_
  refine lv_icmp_ge (tgt := 46) hx hb dX8_isAhead_30 (by decide) (fun c1 => ?_) (fun c1 => ?_)
  · have h := h.1 c1
    refine lv_iconst (v := 0) hx hb dX8_isAhead_46 (by decide) ?_
    exact tk_retz C w dX8_isAhead_47 rfl h
  · have h := h.2 c1
    refine lv_iload_n hx hb dX8_isAhead_33 rfl (lv_at hl 0 rfl) ?_
    refine lv_iload_n hx hb dX8_isAhead_34 rfl (lv_at hl 1 rfl) ?_
    refine lv_ishr hx hb dX8_isAhead_35 ?_
    refine lv_iconst (v := 1) hx hb dX8_isAhead_36 (by decide) ?_
    refine lv_iand hx hb dX8_isAhead_37 ?_
    refine lv_iconst (v := 1) hx hb dX8_isAhead_38 (by decide) ?_
    refine lv_icmp_ne (tgt := 46) hx hb dX8_isAhead_39 (by decide) (fun c2 => ?_) (fun c2 => ?_)
    · have h := h.1 c2
      refine lv_iconst (v := 0) hx hb dX8_isAhead_46 (by decide) ?_
      exact tk_retz C w dX8_isAhead_47 rfl h
    · have h := h.2 c2
      refine lv_iconst (v := 1) hx hb dX8_isAhead_42 (by decide) ?_
      refine lv_goto (tgt := 47) hx hb dX8_isAhead_43 (by decide) ?_
      exact tk_retz C w dX8_isAhead_47 rfl h
set_option maxHeartbeats 4000000 in
set_option maxRecDepth 100000 in
theorem b_X8_isAhead_2 (d : Nat) (x0 : Int32) (x1 : Int32) (x2 : Int32) (σ : tk_S) (Q : Int32 → tk_S → Prop) (h : (12 ≤ x2 → g_X8_isAhead d 27 [(0, aI x0), (2, aI x2)] σ Q) ∧ (¬ 12 ≤ x2 → (¬ ((x0 >>> (x2 &&& 31)) &&& 1) = ((x1 >>> (x2 &&& 31)) &&& 1) → g_X8_isAhead d 27 [(0, aI x0), (2, aI x2)] σ Q) ∧ (((x0 >>> (x2 &&& 31)) &&& 1) = ((x1 >>> (x2 &&& 31)) &&& 1) → g_X8_isAhead d 2 [(0, aI x0), (1, aI x1), (2, aI (x2 + 1))] σ Q))) : g_X8_isAhead d 2 [(0, aI x0), (1, aI x1), (2, aI x2)] σ Q := by
  intro p l e s m args below meth c D cy ad base H locs ls C w hl
  obtain ⟨hx, hb, hml, hown, hts, hr, hlk⟩ := id C
  have hl : lv_has ls 3 [(0, .int x0), (1, .int x1), (2, .int x2)] := hl
  refine lv_iload_n hx hb dX8_isAhead_2 rfl (lv_at hl 2 rfl) ?_
  refine lv_bipush (v := 12) hx hb dX8_isAhead_3 (by decide) ?_
  refine lv_icmp_ge (tgt := 27) hx hb dX8_isAhead_5 (by decide) (fun c1 => ?_) (fun c1 => ?_)
  · have h := h.1 c1
    exact h _ _ _ _ _ _ _ _ _ _ _ _ _ _ _ _ C w (lv_sub hl [0, 2] rfl)
  · have h := h.2 c1
    refine lv_iload_n hx hb dX8_isAhead_8 rfl (lv_at hl 0 rfl) ?_
    refine lv_iload_n hx hb dX8_isAhead_9 rfl (lv_at hl 2 rfl) ?_
    refine lv_ishr hx hb dX8_isAhead_10 ?_
    refine lv_iconst (v := 1) hx hb dX8_isAhead_11 (by decide) ?_
    refine lv_iand hx hb dX8_isAhead_12 ?_
    refine lv_iload_n hx hb dX8_isAhead_13 rfl (lv_at hl 1 rfl) ?_
    refine lv_iload_n hx hb dX8_isAhead_14 rfl (lv_at hl 2 rfl) ?_
    refine lv_ishr hx hb dX8_isAhead_15 ?_
    refine lv_iconst (v := 1) hx hb dX8_isAhead_16 (by decide) ?_
    refine lv_iand hx hb dX8_isAhead_17 ?_
    refine lv_icmp_ne (tgt := 27) hx hb dX8_isAhead_18 (by decide) (fun c2 => ?_) (fun c2 => ?_)
    · have h := h.1 c2
      exact h _ _ _ _ _ _ _ _ _ _ _ _ _ _ _ _ C w (lv_sub hl [0, 2] rfl)
    · have h := h.2 c2
      refine lv_iinc (v := x2 + 1) (lv' := [(2, .int (x2 + 1)), (0, .int x0), (1, .int x1)]) hx hb dX8_isAhead_21 hl (k := 2) rfl rfl (by decide) rfl (fun ls hl => ?_)
      refine lv_goto (tgt := 2) hx hb dX8_isAhead_24 (by decide) ?_
      exact h _ _ _ _ _ _ _ _ _ _ _ _ _ _ _ _ C w (lv_sub hl [1, 2, 0] rfl)
set_option maxHeartbeats 4000000 in
set_option maxRecDepth 100000 in
theorem b_X8_isAhead_0 (d : Nat) (x0 : Int32) (x1 : Int32) (σ : tk_S) (Q : Int32 → tk_S → Prop) (h : g_X8_isAhead d 2 [(0, aI x0), (1, aI x1), (2, aI 0)] σ Q) : g_X8_isAhead d 0 [(0, aI x0), (1, aI x1)] σ Q := by
  intro p l e s m args below meth c D cy ad base H locs ls C w hl
  obtain ⟨hx, hb, hml, hown, hts, hr, hlk⟩ := id C
  have hl : lv_has ls 3 [(0, .int x0), (1, .int x1)] := hl
  refine lv_iconst (v := 0) hx hb dX8_isAhead_0 (by decide) ?_
  refine lv_istore_n (lv' := [(2, .int 0), (0, .int x0), (1, .int x1)]) hx hb dX8_isAhead_1 rfl hl (by decide) rfl (fun ls hl => ?_)
  exact h _ _ _ _ _ _ _ _ _ _ _ _ _ _ _ _ C w (lv_sub hl [1, 2, 0] rfl)
theorem e_X8_isAhead (d : Nat) (x0 : Int32) (x1 : Int32) {σ : tk_S} {Q : Int32 → tk_S → Prop} (h : g_X8_isAhead d 0 [(0, aI x0), (1, aI x1)] σ Q) : p_X8_isAhead d [aI x0, aI x1] σ Q := tk_entry (by decide) rfl (fun _ => Nat.le_of_ble_eq_true rfl) (fun _ => rfl) h
abbrev g_X8_simpler (d pc : Nat) (vals : List (Nat × tk_V)) (σ : tk_S) (Q : Int32 → tk_S → Prop) : Prop := tk_G RX8 cX8_simpler 6 (some .int) d pc vals σ (tk_i Q)
set_option maxHeartbeats 4000000 in
set_option maxRecDepth 100000 in
theorem b_X8_simpler_19 (d : Nat) (x1 : Int32) (x2 : Int32) (x3 : Int32) (x4 : Int32) (x5 : Int32) (σ : tk_S) (Q : Int32 → tk_S → Prop) (h : vp_in x1 12 ∧ ((((1 : Int32) <<< ((σ.1 137 (Int32.toNatClampNeg x1)) &&& 31)) ≤ x5 → Q x4 σ) ∧ (¬ ((1 : Int32) <<< ((σ.1 137 (Int32.toNatClampNeg x1)) &&& 31)) ≤ x5 → (¬ (x5 &&& x3) = x3 → g_X8_simpler (d + 1) 19 [(0, aN 132), (1, aI x1), (2, aI x2), (3, aI x3), (4, aI x4), (5, aI (x5 + 1))] σ Q) ∧ ((x5 &&& x3) = x3 → p_X8_keeps d [aN 132, aI x1, aI x5, aI x2] σ (fun y6 σ5 => (¬ y6 = 0 → (x4 = (-1) → g_X8_simpler (d + 1) 19 [(0, aN 132), (1, aI x1), (2, aI x2), (3, aI x3), (4, aI x5), (5, aI (x5 + 1))] σ5 Q) ∧ (¬ x4 = (-1) → p_X8_bits d [aI x5] σ5 (fun y11 σ10 => p_X8_bits d [aI x4] σ10 (fun y14 σ13 => (y11 < y14 → g_X8_simpler (d + 1) 19 [(0, aN 132), (1, aI x1), (2, aI x2), (3, aI x3), (4, aI x5), (5, aI (x5 + 1))] σ13 Q) ∧ (¬ y11 < y14 → p_X8_bits d [aI x5] σ13 (fun y18 σ17 => p_X8_bits d [aI x4] σ17 (fun y21 σ20 => (¬ y18 = y21 → g_X8_simpler (d + 1) 19 [(0, aN 132), (1, aI x1), (2, aI x2), (3, aI x3), (4, aI x4), (5, aI (x5 + 1))] σ20 Q) ∧ (y18 = y21 → p_X8_isAhead d [aI x5, aI x4] σ20 (fun y25 σ24 => (y25 = 0 → g_X8_simpler (d + 1) 19 [(0, aN 132), (1, aI x1), (2, aI x2), (3, aI x3), (4, aI x4), (5, aI (x5 + 1))] σ24 Q) ∧ (¬ y25 = 0 → g_X8_simpler (d + 1) 19 [(0, aN 132), (1, aI x1), (2, aI x2), (3, aI x3), (4, aI x5), (5, aI (x5 + 1))] σ24 Q)))))))))) ∧ (y6 = 0 → g_X8_simpler (d + 1) 19 [(0, aN 132), (1, aI x1), (2, aI x2), (3, aI x3), (4, aI x4), (5, aI (x5 + 1))] σ5 Q)))))) : g_X8_simpler (d + 1) 19 [(0, aN 132), (1, aI x1), (2, aI x2), (3, aI x3), (4, aI x4), (5, aI x5)] σ Q := by
  intro p l e s m args below meth c D cy ad base H locs ls C w hl
  obtain ⟨hx, hb, hml, hown, hts, hr, hlk⟩ := id C
  have hl : lv_has ls 6 [(0, .ref (ad 132)), (1, .int x1), (2, .int x2), (3, .int x3), (4, .int x4), (5, .int x5)] := hl
  refine lv_iload hx hb dX8_simpler_19 (lv_at hl 5 rfl) ?_
  refine lv_iconst (v := 1) hx hb dX8_simpler_21 (by decide) ?_
  refine lv_aload_n hx hb dX8_simpler_22 rfl (lv_at hl 0 rfl) ?_
  refine tk_get (k := 132) (v := .ref (ad 137)) hx hb hts hown w rfl rfl inlX8 7 (by decide) mw_105 rfl dX8_simpler_23 ?_
  refine lv_iload_n hx hb dX8_simpler_26 rfl (lv_at hl 1 rfl) ?_
  obtain ⟨hi1, h⟩ := h
  refine tk_iald (k := 137) hx hb w rfl hi1 dX8_simpler_27 ?_
  refine lv_ishl hx hb dX8_simpler_28 ?_
  refine lv_icmp_ge (tgt := 106) hx hb dX8_simpler_29 (by decide) (fun c2 => ?_) (fun c2 => ?_)
  · have h := h.1 c2
    refine lv_iload hx hb dX8_simpler_106 (lv_at hl 4 rfl) ?_
    exact tk_reti C w dX8_simpler_108 h
  · have h := h.2 c2
    refine lv_iload hx hb dX8_simpler_32 (lv_at hl 5 rfl) ?_
    refine lv_iload_n hx hb dX8_simpler_34 rfl (lv_at hl 3 rfl) ?_
    refine lv_iand hx hb dX8_simpler_35 ?_
    refine lv_iload_n hx hb dX8_simpler_36 rfl (lv_at hl 3 rfl) ?_
    refine lv_icmp_ne (tgt := 100) hx hb dX8_simpler_37 (by decide) (fun c3 => ?_) (fun c3 => ?_)
    · have h := h.1 c3
      refine lv_iinc (v := x5 + 1) (lv' := [(5, .int (x5 + 1)), (0, .ref (ad 132)), (1, .int x1), (2, .int x2), (3, .int x3), (4, .int x4)]) hx hb dX8_simpler_100 hl (k := 5) rfl rfl (by decide) rfl (fun ls hl => ?_)
      refine lv_goto (tgt := 19) hx hb dX8_simpler_103 (by decide) ?_
      exact h _ _ _ _ _ _ _ _ _ _ _ _ _ _ _ _ C w (lv_sub hl [1, 2, 3, 4, 5, 0] rfl)
    · have h := h.2 c3
      refine lv_aload_n hx hb dX8_simpler_40 rfl (lv_at hl 0 rfl) ?_
      refine lv_iload_n hx hb dX8_simpler_41 rfl (lv_at hl 1 rfl) ?_
      refine lv_iload hx hb dX8_simpler_42 (lv_at hl 5 rfl) ?_
      refine lv_iload_n hx hb dX8_simpler_44 rfl (lv_at hl 2 rfl) ?_
      refine tk_cV C w (k := 132) rfl rfl (as := [aI x1, aI x5, aI x2]) (rest := []) mw_442 mw_5 mw_439 mw_440 mw_441 hd_X8_keeps (by decide) hl.1 (Nat.le_of_ble_eq_true rfl) rfl dX8_simpler_45 h (fun r4 σ5 H locs hq w => ?_)
      obtain ⟨y6, rfl, h⟩ := hq
      refine W.eq (g2 := F0 m 48 ls [.int y6]) rfl ?_
      refine lv_if_ne (tgt := 54) hx hb dX8_simpler_48 (by decide) (fun c7 => ?_) (fun c7 => ?_)
      · have h := h.1 c7
        refine lv_iload hx hb dX8_simpler_54 (lv_at hl 4 rfl) ?_
        refine lv_iconst (v := (-1)) hx hb dX8_simpler_56 (by decide) ?_
        refine lv_icmp_eq (tgt := 96) hx hb dX8_simpler_57 (by decide) (fun c8 => ?_) (fun c8 => ?_)
        · have h := h.1 c8
          refine lv_iload hx hb dX8_simpler_96 (lv_at hl 5 rfl) ?_
          refine lv_istore (lv' := [(4, .int x5), (0, .ref (ad 132)), (1, .int x1), (2, .int x2), (3, .int x3), (5, .int x5)]) hx hb dX8_simpler_98 hl (by decide) rfl (fun ls hl => ?_)
          refine lv_iinc (v := x5 + 1) (lv' := [(5, .int (x5 + 1)), (4, .int x5), (0, .ref (ad 132)), (1, .int x1), (2, .int x2), (3, .int x3)]) hx hb dX8_simpler_100 hl (k := 5) rfl rfl (by decide) rfl (fun ls hl => ?_)
          refine lv_goto (tgt := 19) hx hb dX8_simpler_103 (by decide) ?_
          exact h _ _ _ _ _ _ _ _ _ _ _ _ _ _ _ _ C w (lv_sub hl [2, 3, 4, 5, 1, 0] rfl)
        · have h := h.2 c8
          refine lv_iload hx hb dX8_simpler_60 (lv_at hl 5 rfl) ?_
          refine tk_cS C w (as := [aI x5]) (rest := []) mw_453 mw_5 mw_451 mw_452 hd_X8_bits (by decide) hl.1 (Nat.le_of_ble_eq_true rfl) rfl dX8_simpler_62 h (fun r9 σ10 H locs hq w => ?_)
          obtain ⟨y11, rfl, h⟩ := hq
          refine W.eq (g2 := F0 m 65 ls [.int y11]) rfl ?_
          refine lv_iload hx hb dX8_simpler_65 (lv_at hl 4 rfl) ?_
          refine tk_cS C w (as := [aI x4]) (rest := [.int y11]) mw_453 mw_5 mw_451 mw_452 hd_X8_bits (by decide) hl.1 (Nat.le_of_ble_eq_true rfl) rfl dX8_simpler_67 h (fun r12 σ13 H locs hq w => ?_)
          obtain ⟨y14, rfl, h⟩ := hq
          refine W.eq (g2 := F0 m 70 ls [.int y14, .int y11]) rfl ?_
          refine lv_icmp_lt (tgt := 96) hx hb dX8_simpler_70 (by decide) (fun c15 => ?_) (fun c15 => ?_)
          · have h := h.1 c15
            refine lv_iload hx hb dX8_simpler_96 (lv_at hl 5 rfl) ?_
            refine lv_istore (lv' := [(4, .int x5), (0, .ref (ad 132)), (1, .int x1), (2, .int x2), (3, .int x3), (5, .int x5)]) hx hb dX8_simpler_98 hl (by decide) rfl (fun ls hl => ?_)
            refine lv_iinc (v := x5 + 1) (lv' := [(5, .int (x5 + 1)), (4, .int x5), (0, .ref (ad 132)), (1, .int x1), (2, .int x2), (3, .int x3)]) hx hb dX8_simpler_100 hl (k := 5) rfl rfl (by decide) rfl (fun ls hl => ?_)
            refine lv_goto (tgt := 19) hx hb dX8_simpler_103 (by decide) ?_
            exact h _ _ _ _ _ _ _ _ _ _ _ _ _ _ _ _ C w (lv_sub hl [2, 3, 4, 5, 1, 0] rfl)
          · have h := h.2 c15
            refine lv_iload hx hb dX8_simpler_73 (lv_at hl 5 rfl) ?_
            refine tk_cS C w (as := [aI x5]) (rest := []) mw_453 mw_5 mw_451 mw_452 hd_X8_bits (by decide) hl.1 (Nat.le_of_ble_eq_true rfl) rfl dX8_simpler_75 h (fun r16 σ17 H locs hq w => ?_)
            obtain ⟨y18, rfl, h⟩ := hq
            refine W.eq (g2 := F0 m 78 ls [.int y18]) rfl ?_
            refine lv_iload hx hb dX8_simpler_78 (lv_at hl 4 rfl) ?_
            refine tk_cS C w (as := [aI x4]) (rest := [.int y18]) mw_453 mw_5 mw_451 mw_452 hd_X8_bits (by decide) hl.1 (Nat.le_of_ble_eq_true rfl) rfl dX8_simpler_80 h (fun r19 σ20 H locs hq w => ?_)
            obtain ⟨y21, rfl, h⟩ := hq
            refine W.eq (g2 := F0 m 83 ls [.int y21, .int y18]) rfl ?_
            refine lv_icmp_ne (tgt := 100) hx hb dX8_simpler_83 (by decide) (fun c22 => ?_) (fun c22 => ?_)
            · have h := h.1 c22
              refine lv_iinc (v := x5 + 1) (lv' := [(5, .int (x5 + 1)), (0, .ref (ad 132)), (1, .int x1), (2, .int x2), (3, .int x3), (4, .int x4)]) hx hb dX8_simpler_100 hl (k := 5) rfl rfl (by decide) rfl (fun ls hl => ?_)
              refine lv_goto (tgt := 19) hx hb dX8_simpler_103 (by decide) ?_
              exact h _ _ _ _ _ _ _ _ _ _ _ _ _ _ _ _ C w (lv_sub hl [1, 2, 3, 4, 5, 0] rfl)
            · have h := h.2 c22
              refine lv_iload hx hb dX8_simpler_86 (lv_at hl 5 rfl) ?_
              refine lv_iload hx hb dX8_simpler_88 (lv_at hl 4 rfl) ?_
              refine tk_cS C w (as := [aI x5, aI x4]) (rest := []) mw_456 mw_5 mw_454 mw_455 hd_X8_isAhead (by decide) hl.1 (Nat.le_of_ble_eq_true rfl) rfl dX8_simpler_90 h (fun r23 σ24 H locs hq w => ?_)
              obtain ⟨y25, rfl, h⟩ := hq
              refine W.eq (g2 := F0 m 93 ls [.int y25]) rfl ?_
              refine lv_if_eq (tgt := 100) hx hb dX8_simpler_93 (by decide) (fun c26 => ?_) (fun c26 => ?_)
              · have h := h.1 c26
                refine lv_iinc (v := x5 + 1) (lv' := [(5, .int (x5 + 1)), (0, .ref (ad 132)), (1, .int x1), (2, .int x2), (3, .int x3), (4, .int x4)]) hx hb dX8_simpler_100 hl (k := 5) rfl rfl (by decide) rfl (fun ls hl => ?_)
                refine lv_goto (tgt := 19) hx hb dX8_simpler_103 (by decide) ?_
                exact h _ _ _ _ _ _ _ _ _ _ _ _ _ _ _ _ C w (lv_sub hl [1, 2, 3, 4, 5, 0] rfl)
              · have h := h.2 c26
                refine lv_iload hx hb dX8_simpler_96 (lv_at hl 5 rfl) ?_
                refine lv_istore (lv' := [(4, .int x5), (0, .ref (ad 132)), (1, .int x1), (2, .int x2), (3, .int x3), (5, .int x5)]) hx hb dX8_simpler_98 hl (by decide) rfl (fun ls hl => ?_)
                refine lv_iinc (v := x5 + 1) (lv' := [(5, .int (x5 + 1)), (4, .int x5), (0, .ref (ad 132)), (1, .int x1), (2, .int x2), (3, .int x3)]) hx hb dX8_simpler_100 hl (k := 5) rfl rfl (by decide) rfl (fun ls hl => ?_)
                refine lv_goto (tgt := 19) hx hb dX8_simpler_103 (by decide) ?_
                exact h _ _ _ _ _ _ _ _ _ _ _ _ _ _ _ _ C w (lv_sub hl [2, 3, 4, 5, 1, 0] rfl)
      · have h := h.2 c7
        refine lv_goto (tgt := 100) hx hb dX8_simpler_51 (by decide) ?_
        refine lv_iinc (v := x5 + 1) (lv' := [(5, .int (x5 + 1)), (0, .ref (ad 132)), (1, .int x1), (2, .int x2), (3, .int x3), (4, .int x4)]) hx hb dX8_simpler_100 hl (k := 5) rfl rfl (by decide) rfl (fun ls hl => ?_)
        refine lv_goto (tgt := 19) hx hb dX8_simpler_103 (by decide) ?_
        exact h _ _ _ _ _ _ _ _ _ _ _ _ _ _ _ _ C w (lv_sub hl [1, 2, 3, 4, 5, 0] rfl)
set_option maxHeartbeats 4000000 in
set_option maxRecDepth 100000 in
theorem b_X8_simpler_0 (d : Nat) (x1 : Int32) (x2 : Int32) (σ : tk_S) (Q : Int32 → tk_S → Prop) (h : vp_in x1 12 ∧ (∀ z2 : Int32, z2 = 1 ||| ((1 : Int32) <<< (((σ.1 137 (Int32.toNatClampNeg x1)) - 1) &&& 31)) → (g_X8_simpler (d + 1) 19 [(0, aN 132), (1, aI x1), (2, aI x2), (3, aI z2), (4, aI (-1)), (5, aI 0)] σ Q))) : g_X8_simpler (d + 1) 0 [(0, aN 132), (1, aI x1), (2, aI x2)] σ Q := by
  intro p l e s m args below meth c D cy ad base H locs ls C w hl
  obtain ⟨hx, hb, hml, hown, hts, hr, hlk⟩ := id C
  have hl : lv_has ls 6 [(0, .ref (ad 132)), (1, .int x1), (2, .int x2)] := hl
  refine lv_iconst (v := 1) hx hb dX8_simpler_0 (by decide) ?_
  refine lv_iconst (v := 1) hx hb dX8_simpler_1 (by decide) ?_
  refine lv_aload_n hx hb dX8_simpler_2 rfl (lv_at hl 0 rfl) ?_
  refine tk_get (k := 132) (v := .ref (ad 137)) hx hb hts hown w rfl rfl inlX8 7 (by decide) mw_105 rfl dX8_simpler_3 ?_
  refine lv_iload_n hx hb dX8_simpler_6 rfl (lv_at hl 1 rfl) ?_
  obtain ⟨hi1, h⟩ := h
  refine tk_iald (k := 137) hx hb w rfl hi1 dX8_simpler_7 ?_
  refine lv_iconst (v := 1) hx hb dX8_simpler_8 (by decide) ?_
  refine lv_isub hx hb dX8_simpler_9 ?_
  refine lv_ishl hx hb dX8_simpler_10 ?_
  refine lv_ior hx hb dX8_simpler_11 ?_
  refine lv_topi (fun z2 e_z2 => ?_)
  have h := h z2 e_z2
  refine lv_istore_n (lv' := [(3, .int z2), (0, .ref (ad 132)), (1, .int x1), (2, .int x2)]) hx hb dX8_simpler_12 rfl hl (by decide) rfl (fun ls hl => ?_)
  refine lv_iconst (v := (-1)) hx hb dX8_simpler_13 (by decide) ?_
  refine lv_istore (lv' := [(4, .int (-1)), (3, .int z2), (0, .ref (ad 132)), (1, .int x1), (2, .int x2)]) hx hb dX8_simpler_14 hl (by decide) rfl (fun ls hl => ?_)
  refine lv_iconst (v := 0) hx hb dX8_simpler_16 (by decide) ?_
  refine lv_istore (lv' := [(5, .int 0), (4, .int (-1)), (3, .int z2), (0, .ref (ad 132)), (1, .int x1), (2, .int x2)]) hx hb dX8_simpler_17 hl (by decide) rfl (fun ls hl => ?_)
  exact h _ _ _ _ _ _ _ _ _ _ _ _ _ _ _ _ C w (lv_sub hl [3, 4, 5, 2, 1, 0] rfl)
theorem e_X8_simpler (d : Nat) (x1 : Int32) (x2 : Int32) {σ : tk_S} {Q : Int32 → tk_S → Prop} (h : g_X8_simpler d 0 [(0, aN 132), (1, aI x1), (2, aI x2)] σ Q) : p_X8_simpler d [aN 132, aI x1, aI x2] σ Q := tk_entry (by decide) rfl (fun _ => Nat.le_of_ble_eq_true rfl) (fun _ => rfl) h
abbrev g_X8_isLine (d pc : Nat) (vals : List (Nat × tk_V)) (σ : tk_S) (Q : Int32 → tk_S → Prop) : Prop := tk_G RX8 cX8_isLine 3 (some .boolean) d pc vals σ (tk_i Q)
set_option maxHeartbeats 4000000 in
set_option maxRecDepth 100000 in
theorem b_X8_isLine_0 (d : Nat) (x1 : Int32) (x2 : Int32) (σ : tk_S) (Q : Int32 → tk_S → Prop) (h : p_X8_isShape d [aN 132, aI x1] σ (fun y3 σ2 => (y3 = 0 → Q 0 σ2) ∧ (¬ y3 = 0 → vp_in x1 12 ∧ ((¬ (σ2.1 135 (Int32.toNatClampNeg x1)) = 0 → Q 0 σ2) ∧ ((σ2.1 135 (Int32.toNatClampNeg x1)) = 0 → p_X8_isIn d [aI x2, aI 0, aI 30] σ2 (fun y9 σ8 => (y9 = 0 → Q 0 σ8) ∧ (¬ y9 = 0 → Q 1 σ8))))))) : g_X8_isLine (d + 1) 0 [(0, aN 132), (1, aI x1), (2, aI x2)] σ Q := by
  intro p l e s m args below meth c D cy ad base H locs ls C w hl
  obtain ⟨hx, hb, hml, hown, hts, hr, hlk⟩ := id C
  have hl : lv_has ls 3 [(0, .ref (ad 132)), (1, .int x1), (2, .int x2)] := hl
  refine lv_aload_n hx hb dX8_isLine_0 rfl (lv_at hl 0 rfl) ?_
  refine lv_iload_n hx hb dX8_isLine_1 rfl (lv_at hl 1 rfl) ?_
  refine tk_cV C w (k := 132) rfl rfl (as := [aI x1]) (rest := []) mw_314 mw_5 mw_311 mw_312 mw_313 hd_X8_isShape (by decide) hl.1 (Nat.le_of_ble_eq_true rfl) rfl dX8_isLine_2 h (fun r1 σ2 H locs hq w => ?_)
  obtain ⟨y3, rfl, h⟩ := hq
  refine W.eq (g2 := F0 m 5 ls [.int y3]) rfl ?_
  refine lv_if_eq (tgt := 31) hx hb dX8_isLine_5 (by decide) (fun c4 => ?_) (fun c4 => ?_)
  · have h := h.1 c4
    refine lv_iconst (v := 0) hx hb dX8_isLine_31 (by decide) ?_
    exact tk_retz C w dX8_isLine_32 rfl h
  · have h := h.2 c4
    refine lv_aload_n hx hb dX8_isLine_8 rfl (lv_at hl 0 rfl) ?_
    refine tk_get (k := 132) (v := .ref (ad 135)) hx hb hts hown w rfl rfl inlX8 5 (by decide) mw_103 rfl dX8_isLine_9 ?_
    refine lv_iload_n hx hb dX8_isLine_12 rfl (lv_at hl 1 rfl) ?_
    obtain ⟨hi5, h⟩ := h
    refine tk_iald (k := 135) hx hb w rfl hi5 dX8_isLine_13 ?_
    refine lv_if_ne (tgt := 31) hx hb dX8_isLine_14 (by decide) (fun c6 => ?_) (fun c6 => ?_)
    · have h := h.1 c6
      refine lv_iconst (v := 0) hx hb dX8_isLine_31 (by decide) ?_
      exact tk_retz C w dX8_isLine_32 rfl h
    · have h := h.2 c6
      refine lv_iload_n hx hb dX8_isLine_17 rfl (lv_at hl 2 rfl) ?_
      refine lv_iconst (v := 0) hx hb dX8_isLine_18 (by decide) ?_
      refine lv_bipush (v := 30) hx hb dX8_isLine_19 (by decide) ?_
      refine tk_cS C w (as := [aI x2, aI 0, aI 30]) (rest := []) mw_140 mw_5 mw_138 mw_139 hd_X8_isIn (by decide) hl.1 (Nat.le_of_ble_eq_true rfl) rfl dX8_isLine_21 h (fun r7 σ8 H locs hq w => ?_)
      obtain ⟨y9, rfl, h⟩ := hq
      refine W.eq (g2 := F0 m 24 ls [.int y9]) rfl ?_
      refine lv_if_eq (tgt := 31) hx hb dX8_isLine_24 (by decide) (fun c10 => ?_) (fun c10 => ?_)
      · have h := h.1 c10
        refine lv_iconst (v := 0) hx hb dX8_isLine_31 (by decide) ?_
        exact tk_retz C w dX8_isLine_32 rfl h
      · have h := h.2 c10
        refine lv_iconst (v := 1) hx hb dX8_isLine_27 (by decide) ?_
        refine lv_goto (tgt := 32) hx hb dX8_isLine_28 (by decide) ?_
        exact tk_retz C w dX8_isLine_32 rfl h
theorem e_X8_isLine (d : Nat) (x1 : Int32) (x2 : Int32) {σ : tk_S} {Q : Int32 → tk_S → Prop} (h : g_X8_isLine d 0 [(0, aN 132), (1, aI x1), (2, aI x2)] σ Q) : p_X8_isLine d [aN 132, aI x1, aI x2] σ Q := tk_entry (by decide) rfl (fun _ => Nat.le_of_ble_eq_true rfl) (fun _ => rfl) h
abbrev g_X8_simple (d pc : Nat) (vals : List (Nat × tk_V)) (σ : tk_S) (Q : Int32 → tk_S → Prop) : Prop := tk_G RX8 cX8_simple 5 (some .int) d pc vals σ (tk_i Q)
set_option maxHeartbeats 4000000 in
set_option maxRecDepth 100000 in
theorem b_X8_simple_0 (d : Nat) (x1 : Int32) (x2 : Int32) (x3 : Int32) (σ : tk_S) (Q : Int32 → tk_S → Prop) (h : p_X8_isLine d [aN 132, aI x1, aI x2] σ (fun y3 σ2 => (y3 = 0 → Q (-1) σ2) ∧ (¬ y3 = 0 → p_X8_isIn d [aI x3, aI 0, aI 1] σ2 (fun y7 σ6 => (¬ y7 = 0 → p_X8_simpler d [aN 132, aI x1, aI x2] σ6 (fun y11 σ10 => (¬ x3 = 0 → Q y11 σ10) ∧ (x3 = 0 → p_X8_bits d [aI y11] σ10 (fun y15 σ14 => Q y15 σ14)))) ∧ (y7 = 0 → Q (-1) σ6))))) : g_X8_simple (d + 1) 0 [(0, aN 132), (1, aI x1), (2, aI x2), (3, aI x3)] σ Q := by
  intro p l e s m args below meth c D cy ad base H locs ls C w hl
  obtain ⟨hx, hb, hml, hown, hts, hr, hlk⟩ := id C
  have hl : lv_has ls 5 [(0, .ref (ad 132)), (1, .int x1), (2, .int x2), (3, .int x3)] := hl
  refine lv_aload_n hx hb dX8_simple_0 rfl (lv_at hl 0 rfl) ?_
  refine lv_iload_n hx hb dX8_simple_1 rfl (lv_at hl 1 rfl) ?_
  refine lv_iload_n hx hb dX8_simple_2 rfl (lv_at hl 2 rfl) ?_
  refine tk_cV C w (k := 132) rfl rfl (as := [aI x1, aI x2]) (rest := []) mw_434 mw_5 mw_431 mw_432 mw_433 hd_X8_isLine (by decide) hl.1 (Nat.le_of_ble_eq_true rfl) rfl dX8_simple_3 h (fun r1 σ2 H locs hq w => ?_)
  obtain ⟨y3, rfl, h⟩ := hq
  refine W.eq (g2 := F0 m 6 ls [.int y3]) rfl ?_
  refine lv_if_eq (tgt := 18) hx hb dX8_simple_6 (by decide) (fun c4 => ?_) (fun c4 => ?_)
  · have h := h.1 c4
    refine lv_iconst (v := (-1)) hx hb dX8_simple_18 (by decide) ?_
    exact tk_reti C w dX8_simple_19 h
  · have h := h.2 c4
    refine lv_iload_n hx hb dX8_simple_9 rfl (lv_at hl 3 rfl) ?_
    refine lv_iconst (v := 0) hx hb dX8_simple_10 (by decide) ?_
    refine lv_iconst (v := 1) hx hb dX8_simple_11 (by decide) ?_
    refine tk_cS C w (as := [aI x3, aI 0, aI 1]) (rest := []) mw_140 mw_5 mw_138 mw_139 hd_X8_isIn (by decide) hl.1 (Nat.le_of_ble_eq_true rfl) rfl dX8_simple_12 h (fun r5 σ6 H locs hq w => ?_)
    obtain ⟨y7, rfl, h⟩ := hq
    refine W.eq (g2 := F0 m 15 ls [.int y7]) rfl ?_
    refine lv_if_ne (tgt := 20) hx hb dX8_simple_15 (by decide) (fun c8 => ?_) (fun c8 => ?_)
    · have h := h.1 c8
      refine lv_aload_n hx hb dX8_simple_20 rfl (lv_at hl 0 rfl) ?_
      refine lv_iload_n hx hb dX8_simple_21 rfl (lv_at hl 1 rfl) ?_
      refine lv_iload_n hx hb dX8_simple_22 rfl (lv_at hl 2 rfl) ?_
      refine tk_cV C w (k := 132) rfl rfl (as := [aI x1, aI x2]) (rest := []) mw_438 mw_5 mw_435 mw_436 mw_437 hd_X8_simpler (by decide) hl.1 (Nat.le_of_ble_eq_true rfl) rfl dX8_simple_23 h (fun r9 σ10 H locs hq w => ?_)
      obtain ⟨y11, rfl, h⟩ := hq
      refine W.eq (g2 := F0 m 26 ls [.int y11]) rfl ?_
      refine lv_istore (lv' := [(4, .int y11), (0, .ref (ad 132)), (1, .int x1), (2, .int x2), (3, .int x3)]) hx hb dX8_simple_26 hl (by decide) rfl (fun ls hl => ?_)
      refine lv_iload_n hx hb dX8_simple_28 rfl (lv_at hl 4 rfl) ?_
      refine lv_if_ne (tgt := 40) hx hb dX8_simple_29 (by decide) (fun c12 => ?_) (fun c12 => ?_)
      · have h := h.1 c12
        refine lv_iload hx hb dX8_simple_40 (lv_at hl 0 rfl) ?_
        exact tk_reti C w dX8_simple_42 h
      · have h := h.2 c12
        refine lv_iload hx hb dX8_simple_32 (lv_at hl 0 rfl) ?_
        refine tk_cS C w (as := [aI y11]) (rest := []) mw_453 mw_5 mw_451 mw_452 hd_X8_bits (by decide) hl.1 (Nat.le_of_ble_eq_true rfl) rfl dX8_simple_34 h (fun r13 σ14 H locs hq w => ?_)
        obtain ⟨y15, rfl, h⟩ := hq
        refine W.eq (g2 := F0 m 37 ls [.int y15]) rfl ?_
        refine lv_goto (tgt := 42) hx hb dX8_simple_37 (by decide) ?_
        exact tk_reti C w dX8_simple_42 h
    · have h := h.2 c8
      refine lv_iconst (v := (-1)) hx hb dX8_simple_18 (by decide) ?_
      exact tk_reti C w dX8_simple_19 h
theorem e_X8_simple (d : Nat) (x1 : Int32) (x2 : Int32) (x3 : Int32) {σ : tk_S} {Q : Int32 → tk_S → Prop} (h : g_X8_simple d 0 [(0, aN 132), (1, aI x1), (2, aI x2), (3, aI x3)] σ Q) : p_X8_simple d [aN 132, aI x1, aI x2, aI x3] σ Q := tk_entry (by decide) rfl (fun _ => Nat.le_of_ble_eq_true rfl) (fun _ => rfl) h
abbrev g_X8_simplify (d pc : Nat) (vals : List (Nat × tk_V)) (σ : tk_S) (Q : Int32 → tk_S → Prop) : Prop := tk_G RX8 cX8_simplify 6 (some .int) d pc vals σ (tk_i Q)
set_option maxHeartbeats 4000000 in
set_option maxRecDepth 100000 in
theorem b_X8_simplify_24 (d : Nat) (x1 : Int32) (x3 : Int32) (x4 : Int32) (x5 : Int32) (σ : tk_S) (Q : Int32 → tk_S → Prop) (h : vp_in x1 12 ∧ (((σ.1 137 (Int32.toNatClampNeg x1)) ≤ x5 → vp_in x1 12 ∧ (p_X8_draws d [aN 132, aI x1] (tk_up σ 137 (Int32.toNatClampNeg x1) x4) (fun σ5 => Q x4 σ5))) ∧ (¬ (σ.1 137 (Int32.toNatClampNeg x1)) ≤ x5 → (¬ ((x3 >>> (x5 &&& 31)) &&& 1) = 0 → vp_in ((8 * x1) + x5) 96 ∧ (vp_in ((8 * x1) + x4) 96 ∧ (vp_in ((8 * x1) + x5) 96 ∧ (vp_in ((8 * x1) + x4) 96 ∧ (∀ σ11 : tk_S, σ11 = tk_up (tk_up σ 138 (Int32.toNatClampNeg ((8 * x1) + x4)) (σ.1 138 (Int32.toNatClampNeg ((8 * x1) + x5)))) 139 (Int32.toNatClampNeg ((8 * x1) + x4)) ((tk_up σ 138 (Int32.toNatClampNeg ((8 * x1) + x4)) (σ.1 138 (Int32.toNatClampNeg ((8 * x1) + x5)))).1 139 (Int32.toNatClampNeg ((8 * x1) + x5))) → g_X8_simplify (d + 1) 24 [(0, aN 132), (1, aI x1), (3, aI x3), (4, aI (x4 + 1)), (5, aI (x5 + 1))] σ11 Q))))) ∧ (((x3 >>> (x5 &&& 31)) &&& 1) = 0 → g_X8_simplify (d + 1) 24 [(0, aN 132), (1, aI x1), (3, aI x3), (4, aI x4), (5, aI (x5 + 1))] σ Q)))) : g_X8_simplify (d + 1) 24 [(0, aN 132), (1, aI x1), (3, aI x3), (4, aI x4), (5, aI x5)] σ Q := by
  intro p l e s m args below meth c D cy ad base H locs ls C w hl
  obtain ⟨hx, hb, hml, hown, hts, hr, hlk⟩ := id C
  have hl : lv_has ls 6 [(0, .ref (ad 132)), (1, .int x1), (3, .int x3), (4, .int x4), (5, .int x5)] := hl
  refine lv_iload hx hb dX8_simplify_24 (lv_at hl 4 rfl) ?_
  refine lv_aload_n hx hb dX8_simplify_26 rfl (lv_at hl 0 rfl) ?_
  refine tk_get (k := 132) (v := .ref (ad 137)) hx hb hts hown w rfl rfl inlX8 7 (by decide) mw_105 rfl dX8_simplify_27 ?_
  refine lv_iload_n hx hb dX8_simplify_30 rfl (lv_at hl 1 rfl) ?_
  obtain ⟨hi1, h⟩ := h
  refine tk_iald (k := 137) hx hb w rfl hi1 dX8_simplify_31 ?_
  refine lv_icmp_ge (tgt := 104) hx hb dX8_simplify_32 (by decide) (fun c2 => ?_) (fun c2 => ?_)
  · have h := h.1 c2
    refine lv_aload_n hx hb dX8_simplify_104 rfl (lv_at hl 0 rfl) ?_
    refine tk_get (k := 132) (v := .ref (ad 137)) hx hb hts hown w rfl rfl inlX8 7 (by decide) mw_105 rfl dX8_simplify_105 ?_
    refine lv_iload_n hx hb dX8_simplify_108 rfl (lv_at hl 1 rfl) ?_
    refine lv_iload hx hb dX8_simplify_109 (lv_at hl 3 rfl) ?_
    obtain ⟨hi3, h⟩ := h
    refine tk_iast (k := 137) hx hb w rfl hi3 dX8_simplify_111 (fun H locs w => ?_)
    refine lv_aload_n hx hb dX8_simplify_112 rfl (lv_at hl 0 rfl) ?_
    refine lv_iload_n hx hb dX8_simplify_113 rfl (lv_at hl 1 rfl) ?_
    refine tk_cV C w (k := 132) rfl rfl (as := [aI x1]) (rest := []) mw_252 mw_5 mw_249 mw_250 mw_251 hd_X8_draws (by decide) hl.1 (Nat.le_of_ble_eq_true rfl) rfl dX8_simplify_114 h (fun r4 σ5 H locs hq w => ?_)
    obtain ⟨rfl, h⟩ := hq
    refine W.eq (g2 := F0 m 117 ls []) rfl ?_
    refine lv_iload hx hb dX8_simplify_117 (lv_at hl 3 rfl) ?_
    exact tk_reti C w dX8_simplify_119 h
  · have h := h.2 c2
    refine lv_iload_n hx hb dX8_simplify_35 rfl (lv_at hl 2 rfl) ?_
    refine lv_iload hx hb dX8_simplify_36 (lv_at hl 4 rfl) ?_
    refine lv_ishr hx hb dX8_simplify_38 ?_
    refine lv_iconst (v := 1) hx hb dX8_simplify_39 (by decide) ?_
    refine lv_iand hx hb dX8_simplify_40 ?_
    refine lv_if_ne (tgt := 47) hx hb dX8_simplify_41 (by decide) (fun c6 => ?_) (fun c6 => ?_)
    · have h := h.1 c6
      refine lv_aload_n hx hb dX8_simplify_47 rfl (lv_at hl 0 rfl) ?_
      refine tk_get (k := 132) (v := .ref (ad 138)) hx hb hts hown w rfl rfl inlX8 8 (by decide) mw_106 rfl dX8_simplify_48 ?_
      refine lv_bipush (v := 8) hx hb dX8_simplify_51 (by decide) ?_
      refine lv_iload_n hx hb dX8_simplify_53 rfl (lv_at hl 1 rfl) ?_
      refine lv_imul hx hb dX8_simplify_54 ?_
      refine lv_iload hx hb dX8_simplify_55 (lv_at hl 3 rfl) ?_
      refine lv_iadd hx hb dX8_simplify_57 ?_
      refine lv_aload_n hx hb dX8_simplify_58 rfl (lv_at hl 0 rfl) ?_
      refine tk_get (k := 132) (v := .ref (ad 138)) hx hb hts hown w rfl rfl inlX8 8 (by decide) mw_106 rfl dX8_simplify_59 ?_
      refine lv_bipush (v := 8) hx hb dX8_simplify_62 (by decide) ?_
      refine lv_iload_n hx hb dX8_simplify_64 rfl (lv_at hl 1 rfl) ?_
      refine lv_imul hx hb dX8_simplify_65 ?_
      refine lv_iload hx hb dX8_simplify_66 (lv_at hl 4 rfl) ?_
      refine lv_iadd hx hb dX8_simplify_68 ?_
      obtain ⟨hi7, h⟩ := h
      refine tk_iald (k := 138) hx hb w rfl hi7 dX8_simplify_69 ?_
      obtain ⟨hi8, h⟩ := h
      refine tk_iast (k := 138) hx hb w rfl hi8 dX8_simplify_70 (fun H locs w => ?_)
      refine lv_aload_n hx hb dX8_simplify_71 rfl (lv_at hl 0 rfl) ?_
      refine tk_get (k := 132) (v := .ref (ad 139)) hx hb hts hown w rfl rfl inlX8 9 (by decide) mw_107 rfl dX8_simplify_72 ?_
      refine lv_bipush (v := 8) hx hb dX8_simplify_75 (by decide) ?_
      refine lv_iload_n hx hb dX8_simplify_77 rfl (lv_at hl 1 rfl) ?_
      refine lv_imul hx hb dX8_simplify_78 ?_
      refine lv_iload hx hb dX8_simplify_79 (lv_at hl 3 rfl) ?_
      refine lv_iadd hx hb dX8_simplify_81 ?_
      refine lv_aload_n hx hb dX8_simplify_82 rfl (lv_at hl 0 rfl) ?_
      refine tk_get (k := 132) (v := .ref (ad 139)) hx hb hts hown w rfl rfl inlX8 9 (by decide) mw_107 rfl dX8_simplify_83 ?_
      refine lv_bipush (v := 8) hx hb dX8_simplify_86 (by decide) ?_
      refine lv_iload_n hx hb dX8_simplify_88 rfl (lv_at hl 1 rfl) ?_
      refine lv_imul hx hb dX8_simplify_89 ?_
      refine lv_iload hx hb dX8_simplify_90 (lv_at hl 4 rfl) ?_
      refine lv_iadd hx hb dX8_simplify_92 ?_
      obtain ⟨hi9, h⟩ := h
      refine tk_iald (k := 139) hx hb w rfl hi9 dX8_simplify_93 ?_
      obtain ⟨hi10, h⟩ := h
      refine tk_iast (k := 139) hx hb w rfl hi10 dX8_simplify_94 (fun H locs w => ?_)
      generalize e_σ11 : tk_up (tk_up σ 138 (Int32.toNatClampNeg ((8 * x1) + x4)) (σ.1 138 (Int32.toNatClampNeg ((8 * x1) + x5)))) 139 (Int32.toNatClampNeg ((8 * x1) + x4)) ((tk_up σ 138 (Int32.toNatClampNeg ((8 * x1) + x4)) (σ.1 138 (Int32.toNatClampNeg ((8 * x1) + x5)))).1 139 (Int32.toNatClampNeg ((8 * x1) + x5))) = σ11 at w
      have h := h σ11 e_σ11.symm
      refine lv_iinc (v := x4 + 1) (lv' := [(4, .int (x4 + 1)), (0, .ref (ad 132)), (1, .int x1), (3, .int x3), (5, .int x5)]) hx hb dX8_simplify_95 hl (k := 3) rfl rfl (by decide) rfl (fun ls hl => ?_)
      refine lv_iinc (v := x5 + 1) (lv' := [(5, .int (x5 + 1)), (4, .int (x4 + 1)), (0, .ref (ad 132)), (1, .int x1), (3, .int x3)]) hx hb dX8_simplify_98 hl (k := 4) rfl rfl (by decide) rfl (fun ls hl => ?_)
      refine lv_goto (tgt := 24) hx hb dX8_simplify_101 (by decide) ?_
      exact h _ _ _ _ _ _ _ _ _ _ _ _ _ _ _ _ C w (lv_sub hl [2, 3, 4, 1, 0] rfl)
    · have h := h.2 c6
      refine lv_goto (tgt := 98) hx hb dX8_simplify_44 (by decide) ?_
      refine lv_iinc (v := x5 + 1) (lv' := [(5, .int (x5 + 1)), (0, .ref (ad 132)), (1, .int x1), (3, .int x3), (4, .int x4)]) hx hb dX8_simplify_98 hl (k := 4) rfl rfl (by decide) rfl (fun ls hl => ?_)
      refine lv_goto (tgt := 24) hx hb dX8_simplify_101 (by decide) ?_
      exact h _ _ _ _ _ _ _ _ _ _ _ _ _ _ _ _ C w (lv_sub hl [1, 2, 3, 4, 0] rfl)
set_option maxHeartbeats 4000000 in
set_option maxRecDepth 100000 in
theorem b_X8_simplify_0 (d : Nat) (x1 : Int32) (x2 : Int32) (σ : tk_S) (Q : Int32 → tk_S → Prop) (h : p_X8_isLine d [aN 132, aI x1, aI x2] σ (fun y3 σ2 => (¬ y3 = 0 → p_X8_simpler d [aN 132, aI x1, aI x2] σ2 (fun y7 σ6 => g_X8_simplify (d + 1) 24 [(0, aN 132), (1, aI x1), (3, aI y7), (4, aI 0), (5, aI 0)] σ6 Q)) ∧ (y3 = 0 → Q (-1) σ2))) : g_X8_simplify (d + 1) 0 [(0, aN 132), (1, aI x1), (2, aI x2)] σ Q := by
  intro p l e s m args below meth c D cy ad base H locs ls C w hl
  obtain ⟨hx, hb, hml, hown, hts, hr, hlk⟩ := id C
  have hl : lv_has ls 6 [(0, .ref (ad 132)), (1, .int x1), (2, .int x2)] := hl
  refine lv_aload_n hx hb dX8_simplify_0 rfl (lv_at hl 0 rfl) ?_
  refine lv_iload_n hx hb dX8_simplify_1 rfl (lv_at hl 1 rfl) ?_
  refine lv_iload_n hx hb dX8_simplify_2 rfl (lv_at hl 2 rfl) ?_
  refine tk_cV C w (k := 132) rfl rfl (as := [aI x1, aI x2]) (rest := []) mw_434 mw_5 mw_431 mw_432 mw_433 hd_X8_isLine (by decide) hl.1 (Nat.le_of_ble_eq_true rfl) rfl dX8_simplify_3 h (fun r1 σ2 H locs hq w => ?_)
  obtain ⟨y3, rfl, h⟩ := hq
  refine W.eq (g2 := F0 m 6 ls [.int y3]) rfl ?_
  refine lv_if_ne (tgt := 11) hx hb dX8_simplify_6 (by decide) (fun c4 => ?_) (fun c4 => ?_)
  · have h := h.1 c4
    refine lv_aload_n hx hb dX8_simplify_11 rfl (lv_at hl 0 rfl) ?_
    refine lv_iload_n hx hb dX8_simplify_12 rfl (lv_at hl 1 rfl) ?_
    refine lv_iload_n hx hb dX8_simplify_13 rfl (lv_at hl 2 rfl) ?_
    refine tk_cV C w (k := 132) rfl rfl (as := [aI x1, aI x2]) (rest := []) mw_438 mw_5 mw_435 mw_436 mw_437 hd_X8_simpler (by decide) hl.1 (Nat.le_of_ble_eq_true rfl) rfl dX8_simplify_14 h (fun r5 σ6 H locs hq w => ?_)
    obtain ⟨y7, rfl, h⟩ := hq
    refine W.eq (g2 := F0 m 17 ls [.int y7]) rfl ?_
    refine lv_istore_n (lv' := [(3, .int y7), (0, .ref (ad 132)), (1, .int x1), (2, .int x2)]) hx hb dX8_simplify_17 rfl hl (by decide) rfl (fun ls hl => ?_)
    refine lv_iconst (v := 0) hx hb dX8_simplify_18 (by decide) ?_
    refine lv_istore (lv' := [(4, .int 0), (3, .int y7), (0, .ref (ad 132)), (1, .int x1), (2, .int x2)]) hx hb dX8_simplify_19 hl (by decide) rfl (fun ls hl => ?_)
    refine lv_iconst (v := 0) hx hb dX8_simplify_21 (by decide) ?_
    refine lv_istore (lv' := [(5, .int 0), (4, .int 0), (3, .int y7), (0, .ref (ad 132)), (1, .int x1), (2, .int x2)]) hx hb dX8_simplify_22 hl (by decide) rfl (fun ls hl => ?_)
    exact h _ _ _ _ _ _ _ _ _ _ _ _ _ _ _ _ C w (lv_sub hl [3, 4, 2, 1, 0] rfl)
  · have h := h.2 c4
    refine lv_iconst (v := (-1)) hx hb dX8_simplify_9 (by decide) ?_
    exact tk_reti C w dX8_simplify_10 h
theorem e_X8_simplify (d : Nat) (x1 : Int32) (x2 : Int32) {σ : tk_S} {Q : Int32 → tk_S → Prop} (h : g_X8_simplify d 0 [(0, aN 132), (1, aI x1), (2, aI x2)] σ Q) : p_X8_simplify d [aN 132, aI x1, aI x2] σ Q := tk_entry (by decide) rfl (fun _ => Nat.le_of_ble_eq_true rfl) (fun _ => rfl) h
abbrev g_X8_nears (d pc : Nat) (vals : List (Nat × tk_V)) (σ : tk_S) (Q : tk_S → Prop) : Prop := tk_G RX8 cX8_nears 3 none d pc vals σ (tk_v Q)
set_option maxHeartbeats 4000000 in
set_option maxRecDepth 100000 in
theorem b_X8_nears_19 (d : Nat) (x1 : Int32) (x2 : Int32) (σ : tk_S) (Q : tk_S → Prop) (h : ((σ.1 132 0) ≤ x2 → g_X8_nears (d + 1) 2 [(0, aN 132), (1, aI (x1 + 1))] σ Q) ∧ (¬ (σ.1 132 0) ≤ x2 → vp_in x1 12 ∧ ((x1 = x2 → vp_in x1 12 ∧ (g_X8_nears (d + 1) 19 [(0, aN 132), (1, aI x1), (2, aI (x2 + 1))] (tk_up σ 144 (Int32.toNatClampNeg x1) ((σ.1 144 (Int32.toNatClampNeg x1)) ||| 0)) Q)) ∧ (¬ x1 = x2 → vp_in ((12 * x1) + x2) 144 ∧ ((¬ (σ.1 141 (Int32.toNatClampNeg ((12 * x1) + x2))) = 0 → vp_in x1 12 ∧ (g_X8_nears (d + 1) 19 [(0, aN 132), (1, aI x1), (2, aI (x2 + 1))] (tk_up σ 144 (Int32.toNatClampNeg x1) ((σ.1 144 (Int32.toNatClampNeg x1)) ||| 0)) Q)) ∧ ((σ.1 141 (Int32.toNatClampNeg ((12 * x1) + x2))) = 0 → p_X8_farOf d [aN 132, aI x1, aI x2] σ (fun y10 σ9 => ((σ9.1 132 2) ≤ y10 → vp_in x1 12 ∧ (g_X8_nears (d + 1) 19 [(0, aN 132), (1, aI x1), (2, aI (x2 + 1))] (tk_up σ9 144 (Int32.toNatClampNeg x1) ((σ.1 144 (Int32.toNatClampNeg x1)) ||| 0)) Q)) ∧ (¬ (σ9.1 132 2) ≤ y10 → vp_in x1 12 ∧ (g_X8_nears (d + 1) 19 [(0, aN 132), (1, aI x1), (2, aI (x2 + 1))] (tk_up σ9 144 (Int32.toNatClampNeg x1) ((σ.1 144 (Int32.toNatClampNeg x1)) ||| ((1 : Int32) <<< (x2 &&& 31)))) Q))))))))) : g_X8_nears (d + 1) 19 [(0, aN 132), (1, aI x1), (2, aI x2)] σ Q := by
  intro p l e s m args below meth c D cy ad base H locs ls C w hl
  obtain ⟨hx, hb, hml, hown, hts, hr, hlk⟩ := id C
  have hl : lv_has ls 3 [(0, .ref (ad 132)), (1, .int x1), (2, .int x2)] := hl
  refine lv_iload_n hx hb dX8_nears_19 rfl (lv_at hl 2 rfl) ?_
  refine lv_aload_n hx hb dX8_nears_20 rfl (lv_at hl 0 rfl) ?_
  refine tk_get (k := 132) (v := .int (σ.1 132 0)) hx hb hts hown w rfl rfl inlX8 0 (by decide) mw_244 rfl dX8_nears_21 ?_
  refine lv_icmp_ge (tgt := 81) hx hb dX8_nears_24 (by decide) (fun c1 => ?_) (fun c1 => ?_)
  · have h := h.1 c1
    refine lv_iinc (v := x1 + 1) (lv' := [(1, .int (x1 + 1)), (0, .ref (ad 132)), (2, .int x2)]) hx hb dX8_nears_81 hl (k := 1) rfl rfl (by decide) rfl (fun ls hl => ?_)
    refine lv_goto (tgt := 2) hx hb dX8_nears_84 (by decide) ?_
    exact h _ _ _ _ _ _ _ _ _ _ _ _ _ _ _ _ C w (lv_sub hl [1, 0] rfl)
  · have h := h.2 c1
    refine lv_aload_n hx hb dX8_nears_27 rfl (lv_at hl 0 rfl) ?_
    refine tk_get (k := 132) (v := .ref (ad 144)) hx hb hts hown w rfl rfl inlX8 14 (by decide) mw_113 rfl dX8_nears_28 ?_
    refine lv_iload_n hx hb dX8_nears_31 rfl (lv_at hl 1 rfl) ?_
    refine lv_dup2_11 hx hb dX8_nears_32 rfl rfl ?_
    obtain ⟨hi2, h⟩ := h
    refine tk_iald (k := 144) hx hb w rfl hi2 dX8_nears_33 ?_
    refine lv_iload_n hx hb dX8_nears_34 rfl (lv_at hl 1 rfl) ?_
    refine lv_iload_n hx hb dX8_nears_35 rfl (lv_at hl 2 rfl) ?_
    refine lv_icmp_eq (tgt := 72) hx hb dX8_nears_36 (by decide) (fun c3 => ?_) (fun c3 => ?_)
    · have h := h.1 c3
      refine lv_iconst (v := 0) hx hb dX8_nears_72 (by decide) ?_
      refine lv_ior hx hb dX8_nears_73 ?_
      obtain ⟨hi4, h⟩ := h
      refine tk_iast (k := 144) hx hb w rfl hi4 dX8_nears_74 (fun H locs w => ?_)
      refine lv_iinc (v := x2 + 1) (lv' := [(2, .int (x2 + 1)), (0, .ref (ad 132)), (1, .int x1)]) hx hb dX8_nears_75 hl (k := 2) rfl rfl (by decide) rfl (fun ls hl => ?_)
      refine lv_goto (tgt := 19) hx hb dX8_nears_78 (by decide) ?_
      exact h _ _ _ _ _ _ _ _ _ _ _ _ _ _ _ _ C w (lv_sub hl [1, 2, 0] rfl)
    · have h := h.2 c3
      refine lv_aload_n hx hb dX8_nears_39 rfl (lv_at hl 0 rfl) ?_
      refine tk_get (k := 132) (v := .ref (ad 141)) hx hb hts hown w rfl rfl inlX8 11 (by decide) mw_110 rfl dX8_nears_40 ?_
      refine lv_bipush (v := 12) hx hb dX8_nears_43 (by decide) ?_
      refine lv_iload_n hx hb dX8_nears_45 rfl (lv_at hl 1 rfl) ?_
      refine lv_imul hx hb dX8_nears_46 ?_
      refine lv_iload_n hx hb dX8_nears_47 rfl (lv_at hl 2 rfl) ?_
      refine lv_iadd hx hb dX8_nears_48 ?_
      obtain ⟨hi5, h⟩ := h
      refine tk_zald (k := 141) hx hb w rfl hi5 dX8_nears_49 ?_
      refine lv_if_ne (tgt := 72) hx hb dX8_nears_50 (by decide) (fun c6 => ?_) (fun c6 => ?_)
      · have h := h.1 c6
        refine lv_iconst (v := 0) hx hb dX8_nears_72 (by decide) ?_
        refine lv_ior hx hb dX8_nears_73 ?_
        obtain ⟨hi7, h⟩ := h
        refine tk_iast (k := 144) hx hb w rfl hi7 dX8_nears_74 (fun H locs w => ?_)
        refine lv_iinc (v := x2 + 1) (lv' := [(2, .int (x2 + 1)), (0, .ref (ad 132)), (1, .int x1)]) hx hb dX8_nears_75 hl (k := 2) rfl rfl (by decide) rfl (fun ls hl => ?_)
        refine lv_goto (tgt := 19) hx hb dX8_nears_78 (by decide) ?_
        exact h _ _ _ _ _ _ _ _ _ _ _ _ _ _ _ _ C w (lv_sub hl [1, 2, 0] rfl)
      · have h := h.2 c6
        refine lv_aload_n hx hb dX8_nears_53 rfl (lv_at hl 0 rfl) ?_
        refine lv_iload_n hx hb dX8_nears_54 rfl (lv_at hl 1 rfl) ?_
        refine lv_iload_n hx hb dX8_nears_55 rfl (lv_at hl 2 rfl) ?_
        refine tk_cV C w (k := 132) rfl rfl (as := [aI x1, aI x2]) (rest := [.int (σ.1 144 (Int32.toNatClampNeg x1)), .int x1, .ref (ad 144)]) mw_400 mw_5 mw_397 mw_398 mw_399 hd_X8_farOf (by decide) hl.1 (Nat.le_of_ble_eq_true rfl) rfl dX8_nears_56 h (fun r8 σ9 H locs hq w => ?_)
        obtain ⟨y10, rfl, h⟩ := hq
        refine W.eq (g2 := F0 m 59 ls [.int y10, .int (σ.1 144 (Int32.toNatClampNeg x1)), .int x1, .ref (ad 144)]) rfl ?_
        refine lv_aload_n hx hb dX8_nears_59 rfl (lv_at hl 0 rfl) ?_
        refine tk_get (k := 132) (v := .int (σ9.1 132 2)) hx hb hts hown w rfl rfl inlX8 2 (by decide) mw_100 rfl dX8_nears_60 ?_
        refine lv_icmp_ge (tgt := 72) hx hb dX8_nears_63 (by decide) (fun c11 => ?_) (fun c11 => ?_)
        · have h := h.1 c11
          refine lv_iconst (v := 0) hx hb dX8_nears_72 (by decide) ?_
          refine lv_ior hx hb dX8_nears_73 ?_
          obtain ⟨hi12, h⟩ := h
          refine tk_iast (k := 144) hx hb w rfl hi12 dX8_nears_74 (fun H locs w => ?_)
          refine lv_iinc (v := x2 + 1) (lv' := [(2, .int (x2 + 1)), (0, .ref (ad 132)), (1, .int x1)]) hx hb dX8_nears_75 hl (k := 2) rfl rfl (by decide) rfl (fun ls hl => ?_)
          refine lv_goto (tgt := 19) hx hb dX8_nears_78 (by decide) ?_
          exact h _ _ _ _ _ _ _ _ _ _ _ _ _ _ _ _ C w (lv_sub hl [1, 2, 0] rfl)
        · have h := h.2 c11
          refine lv_iconst (v := 1) hx hb dX8_nears_66 (by decide) ?_
          refine lv_iload_n hx hb dX8_nears_67 rfl (lv_at hl 2 rfl) ?_
          refine lv_ishl hx hb dX8_nears_68 ?_
          refine lv_goto (tgt := 73) hx hb dX8_nears_69 (by decide) ?_
          refine lv_ior hx hb dX8_nears_73 ?_
          obtain ⟨hi13, h⟩ := h
          refine tk_iast (k := 144) hx hb w rfl hi13 dX8_nears_74 (fun H locs w => ?_)
          refine lv_iinc (v := x2 + 1) (lv' := [(2, .int (x2 + 1)), (0, .ref (ad 132)), (1, .int x1)]) hx hb dX8_nears_75 hl (k := 2) rfl rfl (by decide) rfl (fun ls hl => ?_)
          refine lv_goto (tgt := 19) hx hb dX8_nears_78 (by decide) ?_
          exact h _ _ _ _ _ _ _ _ _ _ _ _ _ _ _ _ C w (lv_sub hl [1, 2, 0] rfl)
set_option maxHeartbeats 4000000 in
set_option maxRecDepth 100000 in
theorem b_X8_nears_2 (d : Nat) (x1 : Int32) (σ : tk_S) (Q : tk_S → Prop) (h : ((σ.1 132 0) ≤ x1 → Q σ) ∧ (¬ (σ.1 132 0) ≤ x1 → vp_in x1 12 ∧ (g_X8_nears (d + 1) 19 [(0, aN 132), (1, aI x1), (2, aI 0)] (tk_up σ 144 (Int32.toNatClampNeg x1) 0) Q))) : g_X8_nears (d + 1) 2 [(0, aN 132), (1, aI x1)] σ Q := by
  intro p l e s m args below meth c D cy ad base H locs ls C w hl
  obtain ⟨hx, hb, hml, hown, hts, hr, hlk⟩ := id C
  have hl : lv_has ls 3 [(0, .ref (ad 132)), (1, .int x1)] := hl
  refine lv_iload_n hx hb dX8_nears_2 rfl (lv_at hl 1 rfl) ?_
  refine lv_aload_n hx hb dX8_nears_3 rfl (lv_at hl 0 rfl) ?_
  refine tk_get (k := 132) (v := .int (σ.1 132 0)) hx hb hts hown w rfl rfl inlX8 0 (by decide) mw_244 rfl dX8_nears_4 ?_
  refine lv_icmp_ge (tgt := 87) hx hb dX8_nears_7 (by decide) (fun c1 => ?_) (fun c1 => ?_)
  · have h := h.1 c1
    exact tk_retv C w dX8_nears_87 h
  · have h := h.2 c1
    refine lv_aload_n hx hb dX8_nears_10 rfl (lv_at hl 0 rfl) ?_
    refine tk_get (k := 132) (v := .ref (ad 144)) hx hb hts hown w rfl rfl inlX8 14 (by decide) mw_113 rfl dX8_nears_11 ?_
    refine lv_iload_n hx hb dX8_nears_14 rfl (lv_at hl 1 rfl) ?_
    refine lv_iconst (v := 0) hx hb dX8_nears_15 (by decide) ?_
    obtain ⟨hi2, h⟩ := h
    refine tk_iast (k := 144) hx hb w rfl hi2 dX8_nears_16 (fun H locs w => ?_)
    refine lv_iconst (v := 0) hx hb dX8_nears_17 (by decide) ?_
    refine lv_istore_n (lv' := [(2, .int 0), (0, .ref (ad 132)), (1, .int x1)]) hx hb dX8_nears_18 rfl hl (by decide) rfl (fun ls hl => ?_)
    exact h _ _ _ _ _ _ _ _ _ _ _ _ _ _ _ _ C w (lv_sub hl [1, 2, 0] rfl)
set_option maxHeartbeats 4000000 in
set_option maxRecDepth 100000 in
theorem b_X8_nears_0 (d : Nat)  (σ : tk_S) (Q : tk_S → Prop) (h : g_X8_nears (d + 1) 2 [(0, aN 132), (1, aI 0)] σ Q) : g_X8_nears (d + 1) 0 [(0, aN 132)] σ Q := by
  intro p l e s m args below meth c D cy ad base H locs ls C w hl
  obtain ⟨hx, hb, hml, hown, hts, hr, hlk⟩ := id C
  have hl : lv_has ls 3 [(0, .ref (ad 132))] := hl
  refine lv_iconst (v := 0) hx hb dX8_nears_0 (by decide) ?_
  refine lv_istore_n (lv' := [(1, .int 0), (0, .ref (ad 132))]) hx hb dX8_nears_1 rfl hl (by decide) rfl (fun ls hl => ?_)
  exact h _ _ _ _ _ _ _ _ _ _ _ _ _ _ _ _ C w (lv_sub hl [1, 0] rfl)
theorem e_X8_nears (d : Nat)  {σ : tk_S} {Q : tk_S → Prop} (h : g_X8_nears d 0 [(0, aN 132)] σ Q) : p_X8_nears d [aN 132] σ Q := tk_entry (by decide) rfl (fun _ => Nat.le_of_ble_eq_true rfl) (fun _ => rfl) h
abbrev g_X8_worthOf (d pc : Nat) (vals : List (Nat × tk_V)) (σ : tk_S) (Q : Int32 → tk_S → Prop) : Prop := tk_G RX8 cX8_worthOf 4 (some .int) d pc vals σ (tk_i Q)
set_option maxHeartbeats 4000000 in
set_option maxRecDepth 100000 in
theorem b_X8_worthOf_4 (d : Nat) (x1 : Int32) (x2 : Int32) (x3 : Int32) (σ : tk_S) (Q : Int32 → tk_S → Prop) (h : ((σ.1 132 0) ≤ x3 → Q x2 σ) ∧ (¬ (σ.1 132 0) ≤ x3 → vp_in x3 12 ∧ (∀ z3 : Int32, z3 = x2 + (((x1 >>> (x3 &&& 31)) &&& 1) * (σ.1 136 (Int32.toNatClampNeg x3))) → (g_X8_worthOf d 4 [(0, aN 132), (1, aI x1), (2, aI z3), (3, aI (x3 + 1))] σ Q)))) : g_X8_worthOf d 4 [(0, aN 132), (1, aI x1), (2, aI x2), (3, aI x3)] σ Q := by
  intro p l e s m args below meth c D cy ad base H locs ls C w hl
  obtain ⟨hx, hb, hml, hown, hts, hr, hlk⟩ := id C
  have hl : lv_has ls 4 [(0, .ref (ad 132)), (1, .int x1), (2, .int x2), (3, .int x3)] := hl
  refine lv_iload_n hx hb dX8_worthOf_4 rfl (lv_at hl 3 rfl) ?_
  refine lv_aload_n hx hb dX8_worthOf_5 rfl (lv_at hl 0 rfl) ?_
  refine tk_get (k := 132) (v := .int (σ.1 132 0)) hx hb hts hown w rfl rfl inlX8 0 (by decide) mw_244 rfl dX8_worthOf_6 ?_
  refine lv_icmp_ge (tgt := 33) hx hb dX8_worthOf_9 (by decide) (fun c1 => ?_) (fun c1 => ?_)
  · have h := h.1 c1
    refine lv_iload_n hx hb dX8_worthOf_33 rfl (lv_at hl 2 rfl) ?_
    exact tk_reti C w dX8_worthOf_34 h
  · have h := h.2 c1
    refine lv_iload_n hx hb dX8_worthOf_12 rfl (lv_at hl 2 rfl) ?_
    refine lv_iload_n hx hb dX8_worthOf_13 rfl (lv_at hl 1 rfl) ?_
    refine lv_iload_n hx hb dX8_worthOf_14 rfl (lv_at hl 3 rfl) ?_
    refine lv_ishr hx hb dX8_worthOf_15 ?_
    refine lv_iconst (v := 1) hx hb dX8_worthOf_16 (by decide) ?_
    refine lv_iand hx hb dX8_worthOf_17 ?_
    refine lv_aload_n hx hb dX8_worthOf_18 rfl (lv_at hl 0 rfl) ?_
    refine tk_get (k := 132) (v := .ref (ad 136)) hx hb hts hown w rfl rfl inlX8 6 (by decide) mw_104 rfl dX8_worthOf_19 ?_
    refine lv_iload_n hx hb dX8_worthOf_22 rfl (lv_at hl 3 rfl) ?_
    obtain ⟨hi2, h⟩ := h
    refine tk_iald (k := 136) hx hb w rfl hi2 dX8_worthOf_23 ?_
    refine lv_imul hx hb dX8_worthOf_24 ?_
    refine lv_iadd hx hb dX8_worthOf_25 ?_
    refine lv_topi (fun z3 e_z3 => ?_)
    have h := h z3 e_z3
    refine lv_istore_n (lv' := [(2, .int z3), (0, .ref (ad 132)), (1, .int x1), (3, .int x3)]) hx hb dX8_worthOf_26 rfl hl (by decide) rfl (fun ls hl => ?_)
    refine lv_iinc (v := x3 + 1) (lv' := [(3, .int (x3 + 1)), (2, .int z3), (0, .ref (ad 132)), (1, .int x1)]) hx hb dX8_worthOf_27 hl (k := 3) rfl rfl (by decide) rfl (fun ls hl => ?_)
    refine lv_goto (tgt := 4) hx hb dX8_worthOf_30 (by decide) ?_
    exact h _ _ _ _ _ _ _ _ _ _ _ _ _ _ _ _ C w (lv_sub hl [2, 3, 1, 0] rfl)
set_option maxHeartbeats 4000000 in
set_option maxRecDepth 100000 in
theorem b_X8_worthOf_0 (d : Nat) (x1 : Int32) (σ : tk_S) (Q : Int32 → tk_S → Prop) (h : g_X8_worthOf d 4 [(0, aN 132), (1, aI x1), (2, aI 0), (3, aI 0)] σ Q) : g_X8_worthOf d 0 [(0, aN 132), (1, aI x1)] σ Q := by
  intro p l e s m args below meth c D cy ad base H locs ls C w hl
  obtain ⟨hx, hb, hml, hown, hts, hr, hlk⟩ := id C
  have hl : lv_has ls 4 [(0, .ref (ad 132)), (1, .int x1)] := hl
  refine lv_iconst (v := 0) hx hb dX8_worthOf_0 (by decide) ?_
  refine lv_istore_n (lv' := [(2, .int 0), (0, .ref (ad 132)), (1, .int x1)]) hx hb dX8_worthOf_1 rfl hl (by decide) rfl (fun ls hl => ?_)
  refine lv_iconst (v := 0) hx hb dX8_worthOf_2 (by decide) ?_
  refine lv_istore_n (lv' := [(3, .int 0), (2, .int 0), (0, .ref (ad 132)), (1, .int x1)]) hx hb dX8_worthOf_3 rfl hl (by decide) rfl (fun ls hl => ?_)
  exact h _ _ _ _ _ _ _ _ _ _ _ _ _ _ _ _ C w (lv_sub hl [2, 3, 1, 0] rfl)
theorem e_X8_worthOf (d : Nat) (x1 : Int32) {σ : tk_S} {Q : Int32 → tk_S → Prop} (h : g_X8_worthOf d 0 [(0, aN 132), (1, aI x1)] σ Q) : p_X8_worthOf d [aN 132, aI x1] σ Q := tk_entry (by decide) rfl (fun _ => Nat.le_of_ble_eq_true rfl) (fun _ => rfl) h
abbrev g_X8_kept (d pc : Nat) (vals : List (Nat × tk_V)) (σ : tk_S) (Q : Int32 → tk_S → Prop) : Prop := tk_G RX8 cX8_kept 5 (some .int) d pc vals σ (tk_i Q)
set_option maxHeartbeats 4000000 in
set_option maxRecDepth 100000 in
theorem b_X8_kept_69 (d : Nat) (x1 : Int32) (x2 : Int32) (x3 : Int32) (σ : tk_S) (Q : Int32 → tk_S → Prop) (h : (x3 = 0 → g_X8_kept (d + 1) 8 [(0, aN 132), (1, aI x1), (2, aI (x2 + 1))] σ Q) ∧ (¬ x3 = 0 → p_X8_worthOf d [aN 132, aI x2] σ (fun y4 σ3 => p_X8_worthOf d [aN 132, aI x1] σ3 (fun y7 σ6 => (y7 < y4 → g_X8_kept (d + 1) 8 [(0, aN 132), (1, aI x2), (2, aI (x2 + 1))] σ6 Q) ∧ (¬ y7 < y4 → p_X8_worthOf d [aN 132, aI x2] σ6 (fun y11 σ10 => p_X8_worthOf d [aN 132, aI x1] σ10 (fun y14 σ13 => (¬ y11 = y14 → g_X8_kept (d + 1) 8 [(0, aN 132), (1, aI x1), (2, aI (x2 + 1))] σ13 Q) ∧ (y11 = y14 → p_X8_bits d [aI x2] σ13 (fun y18 σ17 => p_X8_bits d [aI x1] σ17 (fun y21 σ20 => (y18 ≤ y21 → g_X8_kept (d + 1) 8 [(0, aN 132), (1, aI x1), (2, aI (x2 + 1))] σ20 Q) ∧ (¬ y18 ≤ y21 → g_X8_kept (d + 1) 8 [(0, aN 132), (1, aI x2), (2, aI (x2 + 1))] σ20 Q))))))))))) : g_X8_kept (d + 1) 69 [(0, aN 132), (1, aI x1), (2, aI x2), (3, aI x3)] σ Q := by
  intro p l e s m args below meth c D cy ad base H locs ls C w hl
  obtain ⟨hx, hb, hml, hown, hts, hr, hlk⟩ := id C
  have hl : lv_has ls 5 [(0, .ref (ad 132)), (1, .int x1), (2, .int x2), (3, .int x3)] := hl
  refine lv_iload_n hx hb dX8_kept_69 rfl (lv_at hl 3 rfl) ?_
  refine lv_if_eq (tgt := 112) hx hb dX8_kept_70 (by decide) (fun c1 => ?_) (fun c1 => ?_)
  · have h := h.1 c1
    refine lv_iinc (v := x2 + 1) (lv' := [(2, .int (x2 + 1)), (0, .ref (ad 132)), (1, .int x1), (3, .int x3)]) hx hb dX8_kept_112 hl (k := 2) rfl rfl (by decide) rfl (fun ls hl => ?_)
    refine lv_goto (tgt := 8) hx hb dX8_kept_115 (by decide) ?_
    exact h _ _ _ _ _ _ _ _ _ _ _ _ _ _ _ _ C w (lv_sub hl [1, 2, 0] rfl)
  · have h := h.2 c1
    refine lv_aload_n hx hb dX8_kept_73 rfl (lv_at hl 0 rfl) ?_
    refine lv_iload_n hx hb dX8_kept_74 rfl (lv_at hl 2 rfl) ?_
    refine tk_cV C w (k := 132) rfl rfl (as := [aI x2]) (rest := []) mw_508 mw_5 mw_505 mw_506 mw_507 hd_X8_worthOf (by decide) hl.1 (Nat.le_of_ble_eq_true rfl) rfl dX8_kept_75 h (fun r2 σ3 H locs hq w => ?_)
    obtain ⟨y4, rfl, h⟩ := hq
    refine W.eq (g2 := F0 m 78 ls [.int y4]) rfl ?_
    refine lv_aload_n hx hb dX8_kept_78 rfl (lv_at hl 0 rfl) ?_
    refine lv_iload_n hx hb dX8_kept_79 rfl (lv_at hl 1 rfl) ?_
    refine tk_cV C w (k := 132) rfl rfl (as := [aI x1]) (rest := [.int y4]) mw_508 mw_5 mw_505 mw_506 mw_507 hd_X8_worthOf (by decide) hl.1 (Nat.le_of_ble_eq_true rfl) rfl dX8_kept_80 h (fun r5 σ6 H locs hq w => ?_)
    obtain ⟨y7, rfl, h⟩ := hq
    refine W.eq (g2 := F0 m 83 ls [.int y7, .int y4]) rfl ?_
    refine lv_icmp_gt (tgt := 110) hx hb dX8_kept_83 (by decide) (fun c8 => ?_) (fun c8 => ?_)
    · have h := h.1 c8
      refine lv_iload_n hx hb dX8_kept_110 rfl (lv_at hl 2 rfl) ?_
      refine lv_istore_n (lv' := [(1, .int x2), (0, .ref (ad 132)), (2, .int x2), (3, .int x3)]) hx hb dX8_kept_111 rfl hl (by decide) rfl (fun ls hl => ?_)
      refine lv_iinc (v := x2 + 1) (lv' := [(2, .int (x2 + 1)), (1, .int x2), (0, .ref (ad 132)), (3, .int x3)]) hx hb dX8_kept_112 hl (k := 2) rfl rfl (by decide) rfl (fun ls hl => ?_)
      refine lv_goto (tgt := 8) hx hb dX8_kept_115 (by decide) ?_
      exact h _ _ _ _ _ _ _ _ _ _ _ _ _ _ _ _ C w (lv_sub hl [2, 1, 0] rfl)
    · have h := h.2 c8
      refine lv_aload_n hx hb dX8_kept_86 rfl (lv_at hl 0 rfl) ?_
      refine lv_iload_n hx hb dX8_kept_87 rfl (lv_at hl 2 rfl) ?_
      refine tk_cV C w (k := 132) rfl rfl (as := [aI x2]) (rest := []) mw_508 mw_5 mw_505 mw_506 mw_507 hd_X8_worthOf (by decide) hl.1 (Nat.le_of_ble_eq_true rfl) rfl dX8_kept_88 h (fun r9 σ10 H locs hq w => ?_)
      obtain ⟨y11, rfl, h⟩ := hq
      refine W.eq (g2 := F0 m 91 ls [.int y11]) rfl ?_
      refine lv_aload_n hx hb dX8_kept_91 rfl (lv_at hl 0 rfl) ?_
      refine lv_iload_n hx hb dX8_kept_92 rfl (lv_at hl 1 rfl) ?_
      refine tk_cV C w (k := 132) rfl rfl (as := [aI x1]) (rest := [.int y11]) mw_508 mw_5 mw_505 mw_506 mw_507 hd_X8_worthOf (by decide) hl.1 (Nat.le_of_ble_eq_true rfl) rfl dX8_kept_93 h (fun r12 σ13 H locs hq w => ?_)
      obtain ⟨y14, rfl, h⟩ := hq
      refine W.eq (g2 := F0 m 96 ls [.int y14, .int y11]) rfl ?_
      refine lv_icmp_ne (tgt := 112) hx hb dX8_kept_96 (by decide) (fun c15 => ?_) (fun c15 => ?_)
      · have h := h.1 c15
        refine lv_iinc (v := x2 + 1) (lv' := [(2, .int (x2 + 1)), (0, .ref (ad 132)), (1, .int x1), (3, .int x3)]) hx hb dX8_kept_112 hl (k := 2) rfl rfl (by decide) rfl (fun ls hl => ?_)
        refine lv_goto (tgt := 8) hx hb dX8_kept_115 (by decide) ?_
        exact h _ _ _ _ _ _ _ _ _ _ _ _ _ _ _ _ C w (lv_sub hl [1, 2, 0] rfl)
      · have h := h.2 c15
        refine lv_iload_n hx hb dX8_kept_99 rfl (lv_at hl 2 rfl) ?_
        refine tk_cS C w (as := [aI x2]) (rest := []) mw_453 mw_5 mw_451 mw_452 hd_X8_bits (by decide) hl.1 (Nat.le_of_ble_eq_true rfl) rfl dX8_kept_100 h (fun r16 σ17 H locs hq w => ?_)
        obtain ⟨y18, rfl, h⟩ := hq
        refine W.eq (g2 := F0 m 103 ls [.int y18]) rfl ?_
        refine lv_iload_n hx hb dX8_kept_103 rfl (lv_at hl 1 rfl) ?_
        refine tk_cS C w (as := [aI x1]) (rest := [.int y18]) mw_453 mw_5 mw_451 mw_452 hd_X8_bits (by decide) hl.1 (Nat.le_of_ble_eq_true rfl) rfl dX8_kept_104 h (fun r19 σ20 H locs hq w => ?_)
        obtain ⟨y21, rfl, h⟩ := hq
        refine W.eq (g2 := F0 m 107 ls [.int y21, .int y18]) rfl ?_
        refine lv_icmp_le (tgt := 112) hx hb dX8_kept_107 (by decide) (fun c22 => ?_) (fun c22 => ?_)
        · have h := h.1 c22
          refine lv_iinc (v := x2 + 1) (lv' := [(2, .int (x2 + 1)), (0, .ref (ad 132)), (1, .int x1), (3, .int x3)]) hx hb dX8_kept_112 hl (k := 2) rfl rfl (by decide) rfl (fun ls hl => ?_)
          refine lv_goto (tgt := 8) hx hb dX8_kept_115 (by decide) ?_
          exact h _ _ _ _ _ _ _ _ _ _ _ _ _ _ _ _ C w (lv_sub hl [1, 2, 0] rfl)
        · have h := h.2 c22
          refine lv_iload_n hx hb dX8_kept_110 rfl (lv_at hl 2 rfl) ?_
          refine lv_istore_n (lv' := [(1, .int x2), (0, .ref (ad 132)), (2, .int x2), (3, .int x3)]) hx hb dX8_kept_111 rfl hl (by decide) rfl (fun ls hl => ?_)
          refine lv_iinc (v := x2 + 1) (lv' := [(2, .int (x2 + 1)), (1, .int x2), (0, .ref (ad 132)), (3, .int x3)]) hx hb dX8_kept_112 hl (k := 2) rfl rfl (by decide) rfl (fun ls hl => ?_)
          refine lv_goto (tgt := 8) hx hb dX8_kept_115 (by decide) ?_
          exact h _ _ _ _ _ _ _ _ _ _ _ _ _ _ _ _ C w (lv_sub hl [2, 1, 0] rfl)
set_option maxHeartbeats 4000000 in
set_option maxRecDepth 100000 in
theorem b_X8_kept_23 (d : Nat) (x1 : Int32) (x2 : Int32) (x3 : Int32) (x4 : Int32) (σ : tk_S) (Q : Int32 → tk_S → Prop) (h : ((σ.1 132 0) ≤ x4 → g_X8_kept (d + 1) 69 [(0, aN 132), (1, aI x1), (2, aI x2), (3, aI x3)] σ Q) ∧ (¬ (σ.1 132 0) ≤ x4 → (x3 = 0 → g_X8_kept (d + 1) 69 [(0, aN 132), (1, aI x1), (2, aI x2), (3, aI x3)] σ Q) ∧ (¬ x3 = 0 → (((x2 >>> (x4 &&& 31)) &&& 1) = 0 → g_X8_kept (d + 1) 23 [(0, aN 132), (1, aI x1), (2, aI x2), (3, aI 1), (4, aI (x4 + 1))] σ Q) ∧ (¬ ((x2 >>> (x4 &&& 31)) &&& 1) = 0 → vp_in x4 12 ∧ ((¬ ((σ.1 144 (Int32.toNatClampNeg x4)) &&& x2) = 0 → g_X8_kept (d + 1) 23 [(0, aN 132), (1, aI x1), (2, aI x2), (3, aI 0), (4, aI (x4 + 1))] σ Q) ∧ (((σ.1 144 (Int32.toNatClampNeg x4)) &&& x2) = 0 → g_X8_kept (d + 1) 23 [(0, aN 132), (1, aI x1), (2, aI x2), (3, aI 1), (4, aI (x4 + 1))] σ Q)))))) : g_X8_kept (d + 1) 23 [(0, aN 132), (1, aI x1), (2, aI x2), (3, aI x3), (4, aI x4)] σ Q := by
  intro p l e s m args below meth c D cy ad base H locs ls C w hl
  obtain ⟨hx, hb, hml, hown, hts, hr, hlk⟩ := id C
  have hl : lv_has ls 5 [(0, .ref (ad 132)), (1, .int x1), (2, .int x2), (3, .int x3), (4, .int x4)] := hl
  refine lv_iload hx hb dX8_kept_23 (lv_at hl 4 rfl) ?_
  refine lv_aload_n hx hb dX8_kept_25 rfl (lv_at hl 0 rfl) ?_
  refine tk_get (k := 132) (v := .int (σ.1 132 0)) hx hb hts hown w rfl rfl inlX8 0 (by decide) mw_244 rfl dX8_kept_26 ?_
  refine lv_icmp_ge (tgt := 69) hx hb dX8_kept_29 (by decide) (fun c1 => ?_) (fun c1 => ?_)
  · have h := h.1 c1
    exact h _ _ _ _ _ _ _ _ _ _ _ _ _ _ _ _ C w (lv_sub hl [0, 1, 2, 3] rfl)
  · have h := h.2 c1
    refine lv_iload_n hx hb dX8_kept_32 rfl (lv_at hl 3 rfl) ?_
    refine lv_if_eq (tgt := 69) hx hb dX8_kept_33 (by decide) (fun c2 => ?_) (fun c2 => ?_)
    · have h := h.1 c2
      exact h _ _ _ _ _ _ _ _ _ _ _ _ _ _ _ _ C w (lv_sub hl [0, 1, 2, 3] rfl)
    · have h := h.2 c2
      refine lv_iload_n hx hb dX8_kept_36 rfl (lv_at hl 2 rfl) ?_
      refine lv_iload hx hb dX8_kept_37 (lv_at hl 4 rfl) ?_
      refine lv_ishr hx hb dX8_kept_39 ?_
      refine lv_iconst (v := 1) hx hb dX8_kept_40 (by decide) ?_
      refine lv_iand hx hb dX8_kept_41 ?_
      refine lv_if_eq (tgt := 57) hx hb dX8_kept_42 (by decide) (fun c3 => ?_) (fun c3 => ?_)
      · have h := h.1 c3
        refine lv_iconst (v := 1) hx hb dX8_kept_57 (by decide) ?_
        refine lv_goto (tgt := 62) hx hb dX8_kept_58 (by decide) ?_
        refine lv_istore_n (lv' := [(3, .int 1), (0, .ref (ad 132)), (1, .int x1), (2, .int x2), (4, .int x4)]) hx hb dX8_kept_62 rfl hl (by decide) rfl (fun ls hl => ?_)
        refine lv_iinc (v := x4 + 1) (lv' := [(4, .int (x4 + 1)), (3, .int 1), (0, .ref (ad 132)), (1, .int x1), (2, .int x2)]) hx hb dX8_kept_63 hl (k := 4) rfl rfl (by decide) rfl (fun ls hl => ?_)
        refine lv_goto (tgt := 23) hx hb dX8_kept_66 (by decide) ?_
        exact h _ _ _ _ _ _ _ _ _ _ _ _ _ _ _ _ C w (lv_sub hl [2, 3, 4, 1, 0] rfl)
      · have h := h.2 c3
        refine lv_aload_n hx hb dX8_kept_45 rfl (lv_at hl 0 rfl) ?_
        refine tk_get (k := 132) (v := .ref (ad 144)) hx hb hts hown w rfl rfl inlX8 14 (by decide) mw_113 rfl dX8_kept_46 ?_
        refine lv_iload hx hb dX8_kept_49 (lv_at hl 4 rfl) ?_
        obtain ⟨hi4, h⟩ := h
        refine tk_iald (k := 144) hx hb w rfl hi4 dX8_kept_51 ?_
        refine lv_iload_n hx hb dX8_kept_52 rfl (lv_at hl 2 rfl) ?_
        refine lv_iand hx hb dX8_kept_53 ?_
        refine lv_if_ne (tgt := 61) hx hb dX8_kept_54 (by decide) (fun c5 => ?_) (fun c5 => ?_)
        · have h := h.1 c5
          refine lv_iconst (v := 0) hx hb dX8_kept_61 (by decide) ?_
          refine lv_istore_n (lv' := [(3, .int 0), (0, .ref (ad 132)), (1, .int x1), (2, .int x2), (4, .int x4)]) hx hb dX8_kept_62 rfl hl (by decide) rfl (fun ls hl => ?_)
          refine lv_iinc (v := x4 + 1) (lv' := [(4, .int (x4 + 1)), (3, .int 0), (0, .ref (ad 132)), (1, .int x1), (2, .int x2)]) hx hb dX8_kept_63 hl (k := 4) rfl rfl (by decide) rfl (fun ls hl => ?_)
          refine lv_goto (tgt := 23) hx hb dX8_kept_66 (by decide) ?_
          exact h _ _ _ _ _ _ _ _ _ _ _ _ _ _ _ _ C w (lv_sub hl [2, 3, 4, 1, 0] rfl)
        · have h := h.2 c5
          refine lv_iconst (v := 1) hx hb dX8_kept_57 (by decide) ?_
          refine lv_goto (tgt := 62) hx hb dX8_kept_58 (by decide) ?_
          refine lv_istore_n (lv' := [(3, .int 1), (0, .ref (ad 132)), (1, .int x1), (2, .int x2), (4, .int x4)]) hx hb dX8_kept_62 rfl hl (by decide) rfl (fun ls hl => ?_)
          refine lv_iinc (v := x4 + 1) (lv' := [(4, .int (x4 + 1)), (3, .int 1), (0, .ref (ad 132)), (1, .int x1), (2, .int x2)]) hx hb dX8_kept_63 hl (k := 4) rfl rfl (by decide) rfl (fun ls hl => ?_)
          refine lv_goto (tgt := 23) hx hb dX8_kept_66 (by decide) ?_
          exact h _ _ _ _ _ _ _ _ _ _ _ _ _ _ _ _ C w (lv_sub hl [2, 3, 4, 1, 0] rfl)
set_option maxHeartbeats 4000000 in
set_option maxRecDepth 100000 in
theorem b_X8_kept_8 (d : Nat) (x1 : Int32) (x2 : Int32) (σ : tk_S) (Q : Int32 → tk_S → Prop) (h : (((1 : Int32) <<< ((σ.1 132 0) &&& 31)) ≤ x2 → Q x1 σ) ∧ (¬ ((1 : Int32) <<< ((σ.1 132 0) &&& 31)) ≤ x2 → g_X8_kept (d + 1) 23 [(0, aN 132), (1, aI x1), (2, aI x2), (3, aI 1), (4, aI 0)] σ Q)) : g_X8_kept (d + 1) 8 [(0, aN 132), (1, aI x1), (2, aI x2)] σ Q := by
  intro p l e s m args below meth c D cy ad base H locs ls C w hl
  obtain ⟨hx, hb, hml, hown, hts, hr, hlk⟩ := id C
  have hl : lv_has ls 5 [(0, .ref (ad 132)), (1, .int x1), (2, .int x2)] := hl
  refine lv_iload_n hx hb dX8_kept_8 rfl (lv_at hl 2 rfl) ?_
  refine lv_iconst (v := 1) hx hb dX8_kept_9 (by decide) ?_
  refine lv_aload_n hx hb dX8_kept_10 rfl (lv_at hl 0 rfl) ?_
  refine tk_get (k := 132) (v := .int (σ.1 132 0)) hx hb hts hown w rfl rfl inlX8 0 (by decide) mw_244 rfl dX8_kept_11 ?_
  refine lv_ishl hx hb dX8_kept_14 ?_
  refine lv_icmp_ge (tgt := 118) hx hb dX8_kept_15 (by decide) (fun c1 => ?_) (fun c1 => ?_)
  · have h := h.1 c1
    refine lv_iload_n hx hb dX8_kept_118 rfl (lv_at hl 1 rfl) ?_
    exact tk_reti C w dX8_kept_119 h
  · have h := h.2 c1
    refine lv_iconst (v := 1) hx hb dX8_kept_18 (by decide) ?_
    refine lv_istore_n (lv' := [(3, .int 1), (0, .ref (ad 132)), (1, .int x1), (2, .int x2)]) hx hb dX8_kept_19 rfl hl (by decide) rfl (fun ls hl => ?_)
    refine lv_iconst (v := 0) hx hb dX8_kept_20 (by decide) ?_
    refine lv_istore (lv' := [(4, .int 0), (3, .int 1), (0, .ref (ad 132)), (1, .int x1), (2, .int x2)]) hx hb dX8_kept_21 hl (by decide) rfl (fun ls hl => ?_)
    exact h _ _ _ _ _ _ _ _ _ _ _ _ _ _ _ _ C w (lv_sub hl [2, 3, 4, 1, 0] rfl)
set_option maxHeartbeats 4000000 in
set_option maxRecDepth 100000 in
theorem b_X8_kept_0 (d : Nat)  (σ : tk_S) (Q : Int32 → tk_S → Prop) (h : p_X8_nears d [aN 132] σ (fun σ2 => g_X8_kept (d + 1) 8 [(0, aN 132), (1, aI 0), (2, aI 1)] σ2 Q)) : g_X8_kept (d + 1) 0 [(0, aN 132)] σ Q := by
  intro p l e s m args below meth c D cy ad base H locs ls C w hl
  obtain ⟨hx, hb, hml, hown, hts, hr, hlk⟩ := id C
  have hl : lv_has ls 5 [(0, .ref (ad 132))] := hl
  refine lv_aload_n hx hb dX8_kept_0 rfl (lv_at hl 0 rfl) ?_
  refine tk_cV C w (k := 132) rfl rfl (as := []) (rest := []) mw_504 mw_5 mw_501 mw_502 mw_503 hd_X8_nears (by decide) hl.1 (Nat.le_of_ble_eq_true rfl) rfl dX8_kept_1 h (fun r1 σ2 H locs hq w => ?_)
  obtain ⟨rfl, h⟩ := hq
  refine W.eq (g2 := F0 m 4 ls []) rfl ?_
  refine lv_iconst (v := 0) hx hb dX8_kept_4 (by decide) ?_
  refine lv_istore_n (lv' := [(1, .int 0), (0, .ref (ad 132))]) hx hb dX8_kept_5 rfl hl (by decide) rfl (fun ls hl => ?_)
  refine lv_iconst (v := 1) hx hb dX8_kept_6 (by decide) ?_
  refine lv_istore_n (lv' := [(2, .int 1), (1, .int 0), (0, .ref (ad 132))]) hx hb dX8_kept_7 rfl hl (by decide) rfl (fun ls hl => ?_)
  exact h _ _ _ _ _ _ _ _ _ _ _ _ _ _ _ _ C w (lv_sub hl [2, 1, 0] rfl)
theorem e_X8_kept (d : Nat)  {σ : tk_S} {Q : Int32 → tk_S → Prop} (h : g_X8_kept d 0 [(0, aN 132)] σ Q) : p_X8_kept d [aN 132] σ Q := tk_entry (by decide) rfl (fun _ => Nat.le_of_ble_eq_true rfl) (fun _ => rfl) h
abbrev g_X8_loss (d pc : Nat) (vals : List (Nat × tk_V)) (σ : tk_S) (Q : Int32 → tk_S → Prop) : Prop := tk_G RX8 cX8_loss 1 (some .int) d pc vals σ (tk_i Q)
set_option maxHeartbeats 4000000 in
set_option maxRecDepth 100000 in
theorem b_X8_loss_0 (d : Nat)  (σ : tk_S) (Q : Int32 → tk_S → Prop) (h : p_X8_kept d [aN 132] σ (fun y3 σ2 => p_X8_worthOf d [aN 132, aI ((((1 : Int32) <<< ((σ.1 132 0) &&& 31)) - 1) &&& (y3 ^^^ (-1)))] σ2 (fun y6 σ5 => Q y6 σ5))) : g_X8_loss (d + 1) 0 [(0, aN 132)] σ Q := by
  intro p l e s m args below meth c D cy ad base H locs ls C w hl
  obtain ⟨hx, hb, hml, hown, hts, hr, hlk⟩ := id C
  have hl : lv_has ls 1 [(0, .ref (ad 132))] := hl
  refine lv_aload_n hx hb dX8_loss_0 rfl (lv_at hl 0 rfl) ?_
  refine lv_iconst (v := 1) hx hb dX8_loss_1 (by decide) ?_
  refine lv_aload_n hx hb dX8_loss_2 rfl (lv_at hl 0 rfl) ?_
  refine tk_get (k := 132) (v := .int (σ.1 132 0)) hx hb hts hown w rfl rfl inlX8 0 (by decide) mw_244 rfl dX8_loss_3 ?_
  refine lv_ishl hx hb dX8_loss_6 ?_
  refine lv_iconst (v := 1) hx hb dX8_loss_7 (by decide) ?_
  refine lv_isub hx hb dX8_loss_8 ?_
  refine lv_aload_n hx hb dX8_loss_9 rfl (lv_at hl 0 rfl) ?_
  refine tk_cV C w (k := 132) rfl rfl (as := []) (rest := [.int (((1 : Int32) <<< ((σ.1 132 0) &&& 31)) - 1), .ref (ad 132)]) mw_500 mw_5 mw_517 mw_498 mw_499 hd_X8_kept (by decide) hl.1 (Nat.le_of_ble_eq_true rfl) rfl dX8_loss_10 h (fun r1 σ2 H locs hq w => ?_)
  obtain ⟨y3, rfl, h⟩ := hq
  refine W.eq (g2 := F0 m 13 ls [.int y3, .int (((1 : Int32) <<< ((σ.1 132 0) &&& 31)) - 1), .ref (ad 132)]) rfl ?_
  refine lv_iconst (v := (-1)) hx hb dX8_loss_13 (by decide) ?_
  refine lv_ixor hx hb dX8_loss_14 ?_
  refine lv_iand hx hb dX8_loss_15 ?_
  refine tk_cV C w (k := 132) rfl rfl (as := [aI ((((1 : Int32) <<< ((σ.1 132 0) &&& 31)) - 1) &&& (y3 ^^^ (-1)))]) (rest := []) mw_508 mw_5 mw_505 mw_506 mw_507 hd_X8_worthOf (by decide) hl.1 (Nat.le_of_ble_eq_true rfl) rfl dX8_loss_16 h (fun r4 σ5 H locs hq w => ?_)
  obtain ⟨y6, rfl, h⟩ := hq
  refine W.eq (g2 := F0 m 19 ls [.int y6]) rfl ?_
  exact tk_reti C w dX8_loss_19 h
theorem e_X8_loss (d : Nat)  {σ : tk_S} {Q : Int32 → tk_S → Prop} (h : g_X8_loss d 0 [(0, aN 132)] σ Q) : p_X8_loss d [aN 132] σ Q := tk_entry (by decide) rfl (fun _ => Nat.le_of_ble_eq_true rfl) (fun _ => rfl) h
abbrev g_X8_lays (d pc : Nat) (vals : List (Nat × tk_V)) (σ : tk_S) (Q : Int32 → tk_S → Prop) : Prop := tk_G RX8 cX8_lays 5 (some .boolean) d pc vals σ (tk_i Q)
set_option maxHeartbeats 4000000 in
set_option maxRecDepth 100000 in
theorem b_X8_lays_52 (d : Nat) (x1 : Int32) (x2 : Int32) (x3 : Int32) (x4 : Int32) (σ : tk_S) (Q : Int32 → tk_S → Prop) (h : (x2 ≤ x4 → (¬ x3 = 0 → ((σ.1 132 0) ≤ (x2 + 1) → g_X8_lays d 9 [(0, aN 132), (1, aI x1), (2, aI (x2 + 1))] σ Q) ∧ (¬ (σ.1 132 0) ≤ (x2 + 1) → vp_in (x2 + 1) 12 ∧ (g_X8_lays d 9 [(0, aN 132), (1, aI x1), (2, aI (x2 + 1))] (tk_up σ 145 (Int32.toNatClampNeg (x2 + 1)) (-1)) Q))) ∧ (x3 = 0 → g_X8_lays d 9 [(0, aN 132), (1, aI x1), (2, aI x2)] σ Q)) ∧ (¬ x2 ≤ x4 → (x3 = 0 → g_X8_lays d 52 [(0, aN 132), (1, aI x1), (2, aI x2), (3, aI 0), (4, aI (x4 + 1))] σ Q) ∧ (¬ x3 = 0 → vp_in x2 12 ∧ (((((σ.1 144 (Int32.toNatClampNeg x2)) >>> (x4 &&& 31)) &&& 1) = 0 → g_X8_lays d 52 [(0, aN 132), (1, aI x1), (2, aI x2), (3, aI 1), (4, aI (x4 + 1))] σ Q) ∧ (¬ (((σ.1 144 (Int32.toNatClampNeg x2)) >>> (x4 &&& 31)) &&& 1) = 0 → vp_in x4 12 ∧ (vp_in x2 12 ∧ (((σ.1 145 (Int32.toNatClampNeg x4)) = (σ.1 145 (Int32.toNatClampNeg x2)) → g_X8_lays d 52 [(0, aN 132), (1, aI x1), (2, aI x2), (3, aI 0), (4, aI (x4 + 1))] σ Q) ∧ (¬ (σ.1 145 (Int32.toNatClampNeg x4)) = (σ.1 145 (Int32.toNatClampNeg x2)) → g_X8_lays d 52 [(0, aN 132), (1, aI x1), (2, aI x2), (3, aI 1), (4, aI (x4 + 1))] σ Q)))))))) : g_X8_lays d 52 [(0, aN 132), (1, aI x1), (2, aI x2), (3, aI x3), (4, aI x4)] σ Q := by
  intro p l e s m args below meth c D cy ad base H locs ls C w hl
  obtain ⟨hx, hb, hml, hown, hts, hr, hlk⟩ := id C
  have hl : lv_has ls 5 [(0, .ref (ad 132)), (1, .int x1), (2, .int x2), (3, .int x3), (4, .int x4)] := hl
  refine lv_iload hx hb dX8_lays_52 (lv_at hl 4 rfl) ?_
  refine lv_iload_n hx hb dX8_lays_54 rfl (lv_at hl 2 rfl) ?_
  refine lv_icmp_ge (tgt := 104) hx hb dX8_lays_55 (by decide) (fun c1 => ?_) (fun c1 => ?_)
  · have h := h.1 c1
    refine lv_iload_n hx hb dX8_lays_104 rfl (lv_at hl 3 rfl) ?_
    refine lv_if_ne (tgt := 111) hx hb dX8_lays_105 (by decide) (fun c2 => ?_) (fun c2 => ?_)
    · have h := h.1 c2
      refine lv_iinc (v := x2 + 1) (lv' := [(2, .int (x2 + 1)), (0, .ref (ad 132)), (1, .int x1), (3, .int x3), (4, .int x4)]) hx hb dX8_lays_111 hl (k := 2) rfl rfl (by decide) rfl (fun ls hl => ?_)
      refine lv_iload_n hx hb dX8_lays_114 rfl (lv_at hl 0 rfl) ?_
      refine lv_aload_n hx hb dX8_lays_115 rfl (lv_at hl 1 rfl) ?_
      refine tk_get (k := 132) (v := .int (σ.1 132 0)) hx hb hts hown w rfl rfl inlX8 0 (by decide) mw_244 rfl dX8_lays_116 ?_
      refine lv_icmp_ge (tgt := 129) hx hb dX8_lays_119 (by decide) (fun c3 => ?_) (fun c3 => ?_)
      · have h := h.1 c3
        refine lv_goto (tgt := 9) hx hb dX8_lays_129 (by decide) ?_
        exact h _ _ _ _ _ _ _ _ _ _ _ _ _ _ _ _ C w (lv_sub hl [1, 2, 0] rfl)
      · have h := h.2 c3
        refine lv_aload_n hx hb dX8_lays_122 rfl (lv_at hl 1 rfl) ?_
        refine tk_get (k := 132) (v := .ref (ad 145)) hx hb hts hown w rfl rfl inlX8 15 (by decide) mw_114 rfl dX8_lays_123 ?_
        refine lv_iload_n hx hb dX8_lays_126 rfl (lv_at hl 0 rfl) ?_
        refine lv_iconst (v := (-1)) hx hb dX8_lays_127 (by decide) ?_
        obtain ⟨hi4, h⟩ := h
        refine tk_iast (k := 145) hx hb w rfl hi4 dX8_lays_128 (fun H locs w => ?_)
        refine lv_goto (tgt := 9) hx hb dX8_lays_129 (by decide) ?_
        exact h _ _ _ _ _ _ _ _ _ _ _ _ _ _ _ _ C w (lv_sub hl [1, 2, 0] rfl)
    · have h := h.2 c2
      refine lv_goto (tgt := 9) hx hb dX8_lays_108 (by decide) ?_
      exact h _ _ _ _ _ _ _ _ _ _ _ _ _ _ _ _ C w (lv_sub hl [0, 1, 2] rfl)
  · have h := h.2 c1
    refine lv_iload_n hx hb dX8_lays_58 rfl (lv_at hl 3 rfl) ?_
    refine lv_if_eq (tgt := 96) hx hb dX8_lays_59 (by decide) (fun c5 => ?_) (fun c5 => ?_)
    · have h := h.1 c5
      refine lv_iconst (v := 0) hx hb dX8_lays_96 (by decide) ?_
      refine lv_istore_n (lv' := [(3, .int 0), (0, .ref (ad 132)), (1, .int x1), (2, .int x2), (4, .int x4)]) hx hb dX8_lays_97 rfl hl (by decide) rfl (fun ls hl => ?_)
      refine lv_iinc (v := x4 + 1) (lv' := [(4, .int (x4 + 1)), (3, .int 0), (0, .ref (ad 132)), (1, .int x1), (2, .int x2)]) hx hb dX8_lays_98 hl (k := 4) rfl rfl (by decide) rfl (fun ls hl => ?_)
      refine lv_goto (tgt := 52) hx hb dX8_lays_101 (by decide) ?_
      exact h _ _ _ _ _ _ _ _ _ _ _ _ _ _ _ _ C w (lv_sub hl [2, 3, 4, 1, 0] rfl)
    · have h := h.2 c5
      refine lv_aload_n hx hb dX8_lays_62 rfl (lv_at hl 0 rfl) ?_
      refine tk_get (k := 132) (v := .ref (ad 144)) hx hb hts hown w rfl rfl inlX8 14 (by decide) mw_113 rfl dX8_lays_63 ?_
      refine lv_iload_n hx hb dX8_lays_66 rfl (lv_at hl 2 rfl) ?_
      obtain ⟨hi6, h⟩ := h
      refine tk_iald (k := 144) hx hb w rfl hi6 dX8_lays_67 ?_
      refine lv_iload hx hb dX8_lays_68 (lv_at hl 4 rfl) ?_
      refine lv_ishr hx hb dX8_lays_70 ?_
      refine lv_iconst (v := 1) hx hb dX8_lays_71 (by decide) ?_
      refine lv_iand hx hb dX8_lays_72 ?_
      refine lv_if_eq (tgt := 92) hx hb dX8_lays_73 (by decide) (fun c7 => ?_) (fun c7 => ?_)
      · have h := h.1 c7
        refine lv_iconst (v := 1) hx hb dX8_lays_92 (by decide) ?_
        refine lv_goto (tgt := 97) hx hb dX8_lays_93 (by decide) ?_
        refine lv_istore_n (lv' := [(3, .int 1), (0, .ref (ad 132)), (1, .int x1), (2, .int x2), (4, .int x4)]) hx hb dX8_lays_97 rfl hl (by decide) rfl (fun ls hl => ?_)
        refine lv_iinc (v := x4 + 1) (lv' := [(4, .int (x4 + 1)), (3, .int 1), (0, .ref (ad 132)), (1, .int x1), (2, .int x2)]) hx hb dX8_lays_98 hl (k := 4) rfl rfl (by decide) rfl (fun ls hl => ?_)
        refine lv_goto (tgt := 52) hx hb dX8_lays_101 (by decide) ?_
        exact h _ _ _ _ _ _ _ _ _ _ _ _ _ _ _ _ C w (lv_sub hl [2, 3, 4, 1, 0] rfl)
      · have h := h.2 c7
        refine lv_aload_n hx hb dX8_lays_76 rfl (lv_at hl 0 rfl) ?_
        refine tk_get (k := 132) (v := .ref (ad 145)) hx hb hts hown w rfl rfl inlX8 15 (by decide) mw_114 rfl dX8_lays_77 ?_
        refine lv_iload hx hb dX8_lays_80 (lv_at hl 4 rfl) ?_
        obtain ⟨hi8, h⟩ := h
        refine tk_iald (k := 145) hx hb w rfl hi8 dX8_lays_82 ?_
        refine lv_aload_n hx hb dX8_lays_83 rfl (lv_at hl 0 rfl) ?_
        refine tk_get (k := 132) (v := .ref (ad 145)) hx hb hts hown w rfl rfl inlX8 15 (by decide) mw_114 rfl dX8_lays_84 ?_
        refine lv_iload_n hx hb dX8_lays_87 rfl (lv_at hl 2 rfl) ?_
        obtain ⟨hi9, h⟩ := h
        refine tk_iald (k := 145) hx hb w rfl hi9 dX8_lays_88 ?_
        refine lv_icmp_eq (tgt := 96) hx hb dX8_lays_89 (by decide) (fun c10 => ?_) (fun c10 => ?_)
        · have h := h.1 c10
          refine lv_iconst (v := 0) hx hb dX8_lays_96 (by decide) ?_
          refine lv_istore_n (lv' := [(3, .int 0), (0, .ref (ad 132)), (1, .int x1), (2, .int x2), (4, .int x4)]) hx hb dX8_lays_97 rfl hl (by decide) rfl (fun ls hl => ?_)
          refine lv_iinc (v := x4 + 1) (lv' := [(4, .int (x4 + 1)), (3, .int 0), (0, .ref (ad 132)), (1, .int x1), (2, .int x2)]) hx hb dX8_lays_98 hl (k := 4) rfl rfl (by decide) rfl (fun ls hl => ?_)
          refine lv_goto (tgt := 52) hx hb dX8_lays_101 (by decide) ?_
          exact h _ _ _ _ _ _ _ _ _ _ _ _ _ _ _ _ C w (lv_sub hl [2, 3, 4, 1, 0] rfl)
        · have h := h.2 c10
          refine lv_iconst (v := 1) hx hb dX8_lays_92 (by decide) ?_
          refine lv_goto (tgt := 97) hx hb dX8_lays_93 (by decide) ?_
          refine lv_istore_n (lv' := [(3, .int 1), (0, .ref (ad 132)), (1, .int x1), (2, .int x2), (4, .int x4)]) hx hb dX8_lays_97 rfl hl (by decide) rfl (fun ls hl => ?_)
          refine lv_iinc (v := x4 + 1) (lv' := [(4, .int (x4 + 1)), (3, .int 1), (0, .ref (ad 132)), (1, .int x1), (2, .int x2)]) hx hb dX8_lays_98 hl (k := 4) rfl rfl (by decide) rfl (fun ls hl => ?_)
          refine lv_goto (tgt := 52) hx hb dX8_lays_101 (by decide) ?_
          exact h _ _ _ _ _ _ _ _ _ _ _ _ _ _ _ _ C w (lv_sub hl [2, 3, 4, 1, 0] rfl)
set_option maxHeartbeats 4000000 in
set_option maxRecDepth 100000 in
theorem b_X8_lays_9 (d : Nat) (x1 : Int32) (x2 : Int32) (σ : tk_S) (Q : Int32 → tk_S → Prop) (h : (x2 < 0 → (x2 < 0 → Q 0 σ) ∧ (¬ x2 < 0 → Q 1 σ)) ∧ (¬ x2 < 0 → ((σ.1 132 0) ≤ x2 → (x2 < 0 → Q 0 σ) ∧ (¬ x2 < 0 → Q 1 σ)) ∧ (¬ (σ.1 132 0) ≤ x2 → vp_in x2 12 ∧ (vp_in x2 12 ∧ (vp_in x2 12 ∧ ((¬ ((tk_up σ 145 (Int32.toNatClampNeg x2) ((σ.1 145 (Int32.toNatClampNeg x2)) + 1)).1 145 (Int32.toNatClampNeg x2)) = x1 → g_X8_lays d 52 [(0, aN 132), (1, aI x1), (2, aI x2), (3, aI 1), (4, aI 0)] (tk_up σ 145 (Int32.toNatClampNeg x2) ((σ.1 145 (Int32.toNatClampNeg x2)) + 1)) Q) ∧ (((tk_up σ 145 (Int32.toNatClampNeg x2) ((σ.1 145 (Int32.toNatClampNeg x2)) + 1)).1 145 (Int32.toNatClampNeg x2)) = x1 → g_X8_lays d 9 [(0, aN 132), (1, aI x1), (2, aI (x2 + (-1)))] (tk_up σ 145 (Int32.toNatClampNeg x2) ((σ.1 145 (Int32.toNatClampNeg x2)) + 1)) Q))))))) : g_X8_lays d 9 [(0, aN 132), (1, aI x1), (2, aI x2)] σ Q := by
  intro p l e s m args below meth c D cy ad base H locs ls C w hl
  obtain ⟨hx, hb, hml, hown, hts, hr, hlk⟩ := id C
  have hl : lv_has ls 5 [(0, .ref (ad 132)), (1, .int x1), (2, .int x2)] := hl
  refine lv_iload_n hx hb dX8_lays_9 rfl (lv_at hl 2 rfl) ?_
  refine lv_if_lt (tgt := 132) hx hb dX8_lays_10 (by decide) (fun c1 => ?_) (fun c1 => ?_)
  · have h := h.1 c1
    refine lv_iload_n hx hb dX8_lays_132 rfl (lv_at hl 2 rfl) ?_
    refine lv_if_lt (tgt := 140) hx hb dX8_lays_133 (by decide) (fun c2 => ?_) (fun c2 => ?_)
    · have h := h.1 c2
      refine lv_iconst (v := 0) hx hb dX8_lays_140 (by decide) ?_
      exact tk_retz C w dX8_lays_141 rfl h
    · have h := h.2 c2
      refine lv_iconst (v := 1) hx hb dX8_lays_136 (by decide) ?_
      refine lv_goto (tgt := 141) hx hb dX8_lays_137 (by decide) ?_
      exact tk_retz C w dX8_lays_141 rfl h
  · have h := h.2 c1
    refine lv_iload_n hx hb dX8_lays_13 rfl (lv_at hl 2 rfl) ?_
    refine lv_aload_n hx hb dX8_lays_14 rfl (lv_at hl 0 rfl) ?_
    refine tk_get (k := 132) (v := .int (σ.1 132 0)) hx hb hts hown w rfl rfl inlX8 0 (by decide) mw_244 rfl dX8_lays_15 ?_
    refine lv_icmp_ge (tgt := 132) hx hb dX8_lays_18 (by decide) (fun c3 => ?_) (fun c3 => ?_)
    · have h := h.1 c3
      refine lv_iload_n hx hb dX8_lays_132 rfl (lv_at hl 2 rfl) ?_
      refine lv_if_lt (tgt := 140) hx hb dX8_lays_133 (by decide) (fun c4 => ?_) (fun c4 => ?_)
      · have h := h.1 c4
        refine lv_iconst (v := 0) hx hb dX8_lays_140 (by decide) ?_
        exact tk_retz C w dX8_lays_141 rfl h
      · have h := h.2 c4
        refine lv_iconst (v := 1) hx hb dX8_lays_136 (by decide) ?_
        refine lv_goto (tgt := 141) hx hb dX8_lays_137 (by decide) ?_
        exact tk_retz C w dX8_lays_141 rfl h
    · have h := h.2 c3
      refine lv_aload_n hx hb dX8_lays_21 rfl (lv_at hl 0 rfl) ?_
      refine tk_get (k := 132) (v := .ref (ad 145)) hx hb hts hown w rfl rfl inlX8 15 (by decide) mw_114 rfl dX8_lays_22 ?_
      refine lv_iload_n hx hb dX8_lays_25 rfl (lv_at hl 2 rfl) ?_
      refine lv_dup2_11 hx hb dX8_lays_26 rfl rfl ?_
      obtain ⟨hi5, h⟩ := h
      refine tk_iald (k := 145) hx hb w rfl hi5 dX8_lays_27 ?_
      refine lv_iconst (v := 1) hx hb dX8_lays_28 (by decide) ?_
      refine lv_iadd hx hb dX8_lays_29 ?_
      obtain ⟨hi6, h⟩ := h
      refine tk_iast (k := 145) hx hb w rfl hi6 dX8_lays_30 (fun H locs w => ?_)
      refine lv_aload_n hx hb dX8_lays_31 rfl (lv_at hl 0 rfl) ?_
      refine tk_get (k := 132) (v := .ref (ad 145)) hx hb hts hown w rfl rfl inlX8 15 (by decide) mw_114 rfl dX8_lays_32 ?_
      refine lv_iload_n hx hb dX8_lays_35 rfl (lv_at hl 2 rfl) ?_
      obtain ⟨hi7, h⟩ := h
      refine tk_iald (k := 145) hx hb w rfl hi7 dX8_lays_36 ?_
      refine lv_iload_n hx hb dX8_lays_37 rfl (lv_at hl 1 rfl) ?_
      refine lv_icmp_ne (tgt := 47) hx hb dX8_lays_38 (by decide) (fun c8 => ?_) (fun c8 => ?_)
      · have h := h.1 c8
        refine lv_iconst (v := 1) hx hb dX8_lays_47 (by decide) ?_
        refine lv_istore_n (lv' := [(3, .int 1), (0, .ref (ad 132)), (1, .int x1), (2, .int x2)]) hx hb dX8_lays_48 rfl hl (by decide) rfl (fun ls hl => ?_)
        refine lv_iconst (v := 0) hx hb dX8_lays_49 (by decide) ?_
        refine lv_istore (lv' := [(4, .int 0), (3, .int 1), (0, .ref (ad 132)), (1, .int x1), (2, .int x2)]) hx hb dX8_lays_50 hl (by decide) rfl (fun ls hl => ?_)
        exact h _ _ _ _ _ _ _ _ _ _ _ _ _ _ _ _ C w (lv_sub hl [2, 3, 4, 1, 0] rfl)
      · have h := h.2 c8
        refine lv_iinc (v := x2 + (-1)) (lv' := [(2, .int (x2 + (-1))), (0, .ref (ad 132)), (1, .int x1)]) hx hb dX8_lays_41 hl (k := 2) rfl rfl (by decide) rfl (fun ls hl => ?_)
        refine lv_goto (tgt := 9) hx hb dX8_lays_44 (by decide) ?_
        exact h _ _ _ _ _ _ _ _ _ _ _ _ _ _ _ _ C w (lv_sub hl [1, 2, 0] rfl)
set_option maxHeartbeats 4000000 in
set_option maxRecDepth 100000 in
theorem b_X8_lays_0 (d : Nat) (x1 : Int32) (σ : tk_S) (Q : Int32 → tk_S → Prop) (h : g_X8_lays d 9 [(0, aN 132), (1, aI x1), (2, aI 0)] (tk_up σ 145 (Int32.toNatClampNeg 0) (-1)) Q) : g_X8_lays d 0 [(0, aN 132), (1, aI x1)] σ Q := by
  intro p l e s m args below meth c D cy ad base H locs ls C w hl
  obtain ⟨hx, hb, hml, hown, hts, hr, hlk⟩ := id C
  have hl : lv_has ls 5 [(0, .ref (ad 132)), (1, .int x1)] := hl
  refine lv_iconst (v := 0) hx hb dX8_lays_0 (by decide) ?_
  refine lv_istore_n (lv' := [(2, .int 0), (0, .ref (ad 132)), (1, .int x1)]) hx hb dX8_lays_1 rfl hl (by decide) rfl (fun ls hl => ?_)
  refine lv_aload_n hx hb dX8_lays_2 rfl (lv_at hl 1 rfl) ?_
  refine tk_get (k := 132) (v := .ref (ad 145)) hx hb hts hown w rfl rfl inlX8 15 (by decide) mw_114 rfl dX8_lays_3 ?_
  refine lv_iconst (v := 0) hx hb dX8_lays_6 (by decide) ?_
  refine lv_iconst (v := (-1)) hx hb dX8_lays_7 (by decide) ?_
  refine tk_iast (k := 145) hx hb w rfl (by unfold vp_in; decide) dX8_lays_8 (fun H locs w => ?_)
  exact h _ _ _ _ _ _ _ _ _ _ _ _ _ _ _ _ C w (lv_sub hl [1, 2, 0] rfl)
theorem e_X8_lays (d : Nat) (x1 : Int32) {σ : tk_S} {Q : Int32 → tk_S → Prop} (h : g_X8_lays d 0 [(0, aN 132), (1, aI x1)] σ Q) : p_X8_lays d [aN 132, aI x1] σ Q := tk_entry (by decide) rfl (fun _ => Nat.le_of_ble_eq_true rfl) (fun _ => rfl) h
abbrev g_X8_sheets (d pc : Nat) (vals : List (Nat × tk_V)) (σ : tk_S) (Q : Int32 → tk_S → Prop) : Prop := tk_G RX8 cX8_sheets 2 (some .int) d pc vals σ (tk_i Q)
set_option maxHeartbeats 4000000 in
set_option maxRecDepth 100000 in
theorem b_X8_sheets_15 (d : Nat) (x1 : Int32) (σ : tk_S) (Q : Int32 → tk_S → Prop) (h : p_X8_lays d [aN 132, aI x1] σ (fun y3 σ2 => (¬ y3 = 0 → Q x1 σ2) ∧ (y3 = 0 → g_X8_sheets (d + 1) 15 [(0, aN 132), (1, aI (x1 + 1))] σ2 Q))) : g_X8_sheets (d + 1) 15 [(0, aN 132), (1, aI x1)] σ Q := by
  intro p l e s m args below meth c D cy ad base H locs ls C w hl
  obtain ⟨hx, hb, hml, hown, hts, hr, hlk⟩ := id C
  have hl : lv_has ls 2 [(0, .ref (ad 132)), (1, .int x1)] := hl
  refine lv_aload_n hx hb dX8_sheets_15 rfl (lv_at hl 0 rfl) ?_
  refine lv_iload_n hx hb dX8_sheets_16 rfl (lv_at hl 1 rfl) ?_
  refine tk_cV C w (k := 132) rfl rfl (as := [aI x1]) (rest := []) mw_548 mw_5 mw_545 mw_546 mw_547 hd_X8_lays (by decide) hl.1 (Nat.le_of_ble_eq_true rfl) rfl dX8_sheets_17 h (fun r1 σ2 H locs hq w => ?_)
  obtain ⟨y3, rfl, h⟩ := hq
  refine W.eq (g2 := F0 m 20 ls [.int y3]) rfl ?_
  refine lv_if_ne (tgt := 29) hx hb dX8_sheets_20 (by decide) (fun c4 => ?_) (fun c4 => ?_)
  · have h := h.1 c4
    refine lv_iload_n hx hb dX8_sheets_29 rfl (lv_at hl 1 rfl) ?_
    exact tk_reti C w dX8_sheets_30 h
  · have h := h.2 c4
    refine lv_iinc (v := x1 + 1) (lv' := [(1, .int (x1 + 1)), (0, .ref (ad 132))]) hx hb dX8_sheets_23 hl (k := 1) rfl rfl (by decide) rfl (fun ls hl => ?_)
    refine lv_goto (tgt := 15) hx hb dX8_sheets_26 (by decide) ?_
    exact h _ _ _ _ _ _ _ _ _ _ _ _ _ _ _ _ C w (lv_sub hl [1, 0] rfl)
set_option maxHeartbeats 4000000 in
set_option maxRecDepth 100000 in
theorem b_X8_sheets_0 (d : Nat)  (σ : tk_S) (Q : Int32 → tk_S → Prop) (h : (¬ (σ.1 132 0) = 0 → p_X8_nears d [aN 132] σ (fun σ3 => g_X8_sheets (d + 1) 15 [(0, aN 132), (1, aI 1)] σ3 Q)) ∧ ((σ.1 132 0) = 0 → Q 0 σ)) : g_X8_sheets (d + 1) 0 [(0, aN 132)] σ Q := by
  intro p l e s m args below meth c D cy ad base H locs ls C w hl
  obtain ⟨hx, hb, hml, hown, hts, hr, hlk⟩ := id C
  have hl : lv_has ls 2 [(0, .ref (ad 132))] := hl
  refine lv_aload_n hx hb dX8_sheets_0 rfl (lv_at hl 0 rfl) ?_
  refine tk_get (k := 132) (v := .int (σ.1 132 0)) hx hb hts hown w rfl rfl inlX8 0 (by decide) mw_244 rfl dX8_sheets_1 ?_
  refine lv_if_ne (tgt := 9) hx hb dX8_sheets_4 (by decide) (fun c1 => ?_) (fun c1 => ?_)
  · have h := h.1 c1
    refine lv_aload_n hx hb dX8_sheets_9 rfl (lv_at hl 0 rfl) ?_
    refine tk_cV C w (k := 132) rfl rfl (as := []) (rest := []) mw_504 mw_5 mw_501 mw_502 mw_503 hd_X8_nears (by decide) hl.1 (Nat.le_of_ble_eq_true rfl) rfl dX8_sheets_10 h (fun r2 σ3 H locs hq w => ?_)
    obtain ⟨rfl, h⟩ := hq
    refine W.eq (g2 := F0 m 13 ls []) rfl ?_
    refine lv_iconst (v := 1) hx hb dX8_sheets_13 (by decide) ?_
    refine lv_istore_n (lv' := [(1, .int 1), (0, .ref (ad 132))]) hx hb dX8_sheets_14 rfl hl (by decide) rfl (fun ls hl => ?_)
    exact h _ _ _ _ _ _ _ _ _ _ _ _ _ _ _ _ C w (lv_sub hl [1, 0] rfl)
  · have h := h.2 c1
    refine lv_iconst (v := 0) hx hb dX8_sheets_7 (by decide) ?_
    exact tk_reti C w dX8_sheets_8 h
theorem e_X8_sheets (d : Nat)  {σ : tk_S} {Q : Int32 → tk_S → Prop} (h : g_X8_sheets d 0 [(0, aN 132)] σ Q) : p_X8_sheets d [aN 132] σ Q := tk_entry (by decide) rfl (fun _ => Nat.le_of_ble_eq_true rfl) (fun _ => rfl) h
abbrev g_X8_sheet (d pc : Nat) (vals : List (Nat × tk_V)) (σ : tk_S) (Q : Int32 → tk_S → Prop) : Prop := tk_G RX8 cX8_sheet 2 (some .int) d pc vals σ (tk_i Q)
set_option maxHeartbeats 4000000 in
set_option maxRecDepth 100000 in
theorem b_X8_sheet_0 (d : Nat) (x1 : Int32) (σ : tk_S) (Q : Int32 → tk_S → Prop) (h : p_X8_isShape d [aN 132, aI x1] σ (fun y3 σ2 => (¬ y3 = 0 → p_X8_sheets d [aN 132] σ2 (fun y7 σ6 => vp_in x1 12 ∧ (Q (σ6.1 145 (Int32.toNatClampNeg x1)) σ6))) ∧ (y3 = 0 → Q (-1) σ2))) : g_X8_sheet (d + 1) 0 [(0, aN 132), (1, aI x1)] σ Q := by
  intro p l e s m args below meth c D cy ad base H locs ls C w hl
  obtain ⟨hx, hb, hml, hown, hts, hr, hlk⟩ := id C
  have hl : lv_has ls 2 [(0, .ref (ad 132)), (1, .int x1)] := hl
  refine lv_aload_n hx hb dX8_sheet_0 rfl (lv_at hl 0 rfl) ?_
  refine lv_iload_n hx hb dX8_sheet_1 rfl (lv_at hl 1 rfl) ?_
  refine tk_cV C w (k := 132) rfl rfl (as := [aI x1]) (rest := []) mw_314 mw_5 mw_311 mw_312 mw_313 hd_X8_isShape (by decide) hl.1 (Nat.le_of_ble_eq_true rfl) rfl dX8_sheet_2 h (fun r1 σ2 H locs hq w => ?_)
  obtain ⟨y3, rfl, h⟩ := hq
  refine W.eq (g2 := F0 m 5 ls [.int y3]) rfl ?_
  refine lv_if_ne (tgt := 10) hx hb dX8_sheet_5 (by decide) (fun c4 => ?_) (fun c4 => ?_)
  · have h := h.1 c4
    refine lv_aload_n hx hb dX8_sheet_10 rfl (lv_at hl 0 rfl) ?_
    refine tk_cV C w (k := 132) rfl rfl (as := []) (rest := []) mw_544 mw_5 mw_558 mw_542 mw_543 hd_X8_sheets (by decide) hl.1 (Nat.le_of_ble_eq_true rfl) rfl dX8_sheet_11 h (fun r5 σ6 H locs hq w => ?_)
    obtain ⟨y7, rfl, h⟩ := hq
    refine W.eq (g2 := F0 m 14 ls [.int y7]) rfl ?_
    refine lv_pop hx hb dX8_sheet_14 rfl ?_
    refine lv_aload_n hx hb dX8_sheet_15 rfl (lv_at hl 0 rfl) ?_
    refine tk_get (k := 132) (v := .ref (ad 145)) hx hb hts hown w rfl rfl inlX8 15 (by decide) mw_114 rfl dX8_sheet_16 ?_
    refine lv_iload_n hx hb dX8_sheet_19 rfl (lv_at hl 1 rfl) ?_
    obtain ⟨hi8, h⟩ := h
    refine tk_iald (k := 145) hx hb w rfl hi8 dX8_sheet_20 ?_
    exact tk_reti C w dX8_sheet_21 h
  · have h := h.2 c4
    refine lv_iconst (v := (-1)) hx hb dX8_sheet_8 (by decide) ?_
    exact tk_reti C w dX8_sheet_9 h
theorem e_X8_sheet (d : Nat) (x1 : Int32) {σ : tk_S} {Q : Int32 → tk_S → Prop} (h : g_X8_sheet d 0 [(0, aN 132), (1, aI x1)] σ Q) : p_X8_sheet d [aN 132, aI x1] σ Q := tk_entry (by decide) rfl (fun _ => Nat.le_of_ble_eq_true rfl) (fun _ => rfl) h
abbrev g_X8_textured (d pc : Nat) (vals : List (Nat × tk_V)) (σ : tk_S) (Q : tk_S → Prop) : Prop := tk_G RX8 cX8_textured 6 none d pc vals σ (tk_v Q)
set_option maxHeartbeats 4000000 in
set_option maxRecDepth 100000 in
theorem b_X8_textured_390 (d : Nat) (x1 : Int32) (x2 : Int32) (x3 : Int32) (x5 : Int32) (σ : tk_S) (Q : tk_S → Prop) (h : ((σ.1 132 20) ≤ x5 → g_X8_textured (d + 1) 183 [(0, aN 132), (1, aI x1), (2, aI x2), (3, aI x3)] σ Q) ∧ (¬ (σ.1 132 20) ≤ x5 → vp_in x5 12 ∧ (vp_in x5 12 ∧ (g_X8_textured (d + 1) 390 [(0, aN 132), (1, aI x1), (2, aI x2), (3, aI x3), (5, aI (x5 + 1))] (tk_up σ 148 (Int32.toNatClampNeg x5) (σ.1 147 (Int32.toNatClampNeg x5))) Q)))) : g_X8_textured (d + 1) 390 [(0, aN 132), (1, aI x1), (2, aI x2), (3, aI x3), (5, aI x5)] σ Q := by
  intro p l e s m args below meth c D cy ad base H locs ls C w hl
  obtain ⟨hx, hb, hml, hown, hts, hr, hlk⟩ := id C
  have hl : lv_has ls 6 [(0, .ref (ad 132)), (1, .int x1), (2, .int x2), (3, .int x3), (5, .int x5)] := hl
  refine lv_iload hx hb dX8_textured_390 (lv_at hl 4 rfl) ?_
  refine lv_aload_n hx hb dX8_textured_392 rfl (lv_at hl 0 rfl) ?_
  refine tk_get (k := 132) (v := .int (σ.1 132 20)) hx hb hts hown w rfl rfl inlX8 20 (by decide) mw_639 rfl dX8_textured_393 ?_
  refine lv_icmp_ge (tgt := 419) hx hb dX8_textured_396 (by decide) (fun c1 => ?_) (fun c1 => ?_)
  · have h := h.1 c1
    refine lv_goto (tgt := 183) hx hb dX8_textured_419 (by decide) ?_
    exact h _ _ _ _ _ _ _ _ _ _ _ _ _ _ _ _ C w (lv_sub hl [0, 1, 2, 3] rfl)
  · have h := h.2 c1
    refine lv_aload_n hx hb dX8_textured_399 rfl (lv_at hl 0 rfl) ?_
    refine tk_get (k := 132) (v := .ref (ad 148)) hx hb hts hown w rfl rfl inlX8 18 (by decide) mw_117 rfl dX8_textured_400 ?_
    refine lv_iload hx hb dX8_textured_403 (lv_at hl 4 rfl) ?_
    refine lv_aload_n hx hb dX8_textured_405 rfl (lv_at hl 0 rfl) ?_
    refine tk_get (k := 132) (v := .ref (ad 147)) hx hb hts hown w rfl rfl inlX8 17 (by decide) mw_116 rfl dX8_textured_406 ?_
    refine lv_iload hx hb dX8_textured_409 (lv_at hl 4 rfl) ?_
    obtain ⟨hi2, h⟩ := h
    refine tk_iald (k := 147) hx hb w rfl hi2 dX8_textured_411 ?_
    obtain ⟨hi3, h⟩ := h
    refine tk_iast (k := 148) hx hb w rfl hi3 dX8_textured_412 (fun H locs w => ?_)
    refine lv_iinc (v := x5 + 1) (lv' := [(5, .int (x5 + 1)), (0, .ref (ad 132)), (1, .int x1), (2, .int x2), (3, .int x3)]) hx hb dX8_textured_413 hl (k := 4) rfl rfl (by decide) rfl (fun ls hl => ?_)
    refine lv_goto (tgt := 390) hx hb dX8_textured_416 (by decide) ?_
    exact h _ _ _ _ _ _ _ _ _ _ _ _ _ _ _ _ C w (lv_sub hl [1, 2, 3, 4, 0] rfl)
set_option maxHeartbeats 4000000 in
set_option maxRecDepth 100000 in
theorem b_X8_textured_364 (d : Nat) (x1 : Int32) (x2 : Int32) (x3 : Int32) (x4 : Int32) (σ : tk_S) (Q : tk_S → Prop) (h : (¬ x4 = 0 → (¬ x2 = ((σ.1 132 20) - 1) → vp_in (x2 + 1) 12 ∧ (g_X8_textured (d + 1) 183 [(0, aN 132), (1, aI x1), (2, aI (x2 + 1)), (3, aI x3)] (tk_up σ 147 (Int32.toNatClampNeg (x2 + 1)) (-1)) Q)) ∧ (x2 = ((σ.1 132 20) - 1) → g_X8_textured (d + 1) 390 [(0, aN 132), (1, aI x1), (2, aI x2), (3, aI x3), (5, aI 0)] (tk_up σ 132 21 x3) Q)) ∧ (x4 = 0 → g_X8_textured (d + 1) 183 [(0, aN 132), (1, aI x1), (2, aI x2), (3, aI x3)] σ Q)) : g_X8_textured (d + 1) 364 [(0, aN 132), (1, aI x1), (2, aI x2), (3, aI x3), (4, aI x4)] σ Q := by
  intro p l e s m args below meth c D cy ad base H locs ls C w hl
  obtain ⟨hx, hb, hml, hown, hts, hr, hlk⟩ := id C
  have hl : lv_has ls 6 [(0, .ref (ad 132)), (1, .int x1), (2, .int x2), (3, .int x3), (4, .int x4)] := hl
  refine lv_iload hx hb dX8_textured_364 (lv_at hl 4 rfl) ?_
  refine lv_if_ne (tgt := 372) hx hb dX8_textured_366 (by decide) (fun c1 => ?_) (fun c1 => ?_)
  · have h := h.1 c1
    refine lv_iload_n hx hb dX8_textured_372 rfl (lv_at hl 2 rfl) ?_
    refine lv_aload_n hx hb dX8_textured_373 rfl (lv_at hl 0 rfl) ?_
    refine tk_get (k := 132) (v := .int (σ.1 132 20)) hx hb hts hown w rfl rfl inlX8 20 (by decide) mw_639 rfl dX8_textured_374 ?_
    refine lv_iconst (v := 1) hx hb dX8_textured_377 (by decide) ?_
    refine lv_isub hx hb dX8_textured_378 ?_
    refine lv_icmp_ne (tgt := 422) hx hb dX8_textured_379 (by decide) (fun c2 => ?_) (fun c2 => ?_)
    · have h := h.1 c2
      refine lv_iinc (v := x2 + 1) (lv' := [(2, .int (x2 + 1)), (0, .ref (ad 132)), (1, .int x1), (3, .int x3), (4, .int x4)]) hx hb dX8_textured_422 hl (k := 2) rfl rfl (by decide) rfl (fun ls hl => ?_)
      refine lv_aload_n hx hb dX8_textured_425 rfl (lv_at hl 1 rfl) ?_
      refine tk_get (k := 132) (v := .ref (ad 147)) hx hb hts hown w rfl rfl inlX8 17 (by decide) mw_116 rfl dX8_textured_426 ?_
      refine lv_iload_n hx hb dX8_textured_429 rfl (lv_at hl 0 rfl) ?_
      refine lv_iconst (v := (-1)) hx hb dX8_textured_430 (by decide) ?_
      obtain ⟨hi3, h⟩ := h
      refine tk_iast (k := 147) hx hb w rfl hi3 dX8_textured_431 (fun H locs w => ?_)
      refine lv_goto (tgt := 183) hx hb dX8_textured_432 (by decide) ?_
      exact h _ _ _ _ _ _ _ _ _ _ _ _ _ _ _ _ C w (lv_sub hl [1, 2, 0, 3] rfl)
    · have h := h.2 c2
      refine lv_aload_n hx hb dX8_textured_382 rfl (lv_at hl 0 rfl) ?_
      refine lv_iload_n hx hb dX8_textured_383 rfl (lv_at hl 3 rfl) ?_
      refine tk_puti (k := 132) (ty := .int) hx hb hts hown w rfl rfl inlX8 tyX8 tyX8_ok nmX8 21 (by decide) mw_640 rfl rfl (by decide +kernel) rfl rfl dX8_textured_384 (fun H locs w => ?_)
      refine lv_iconst (v := 0) hx hb dX8_textured_387 (by decide) ?_
      refine lv_istore (lv' := [(5, .int 0), (0, .ref (ad 132)), (1, .int x1), (2, .int x2), (3, .int x3), (4, .int x4)]) hx hb dX8_textured_388 hl (by decide) rfl (fun ls hl => ?_)
      exact h _ _ _ _ _ _ _ _ _ _ _ _ _ _ _ _ C w (lv_sub hl [1, 2, 3, 4, 0] rfl)
  · have h := h.2 c1
    refine lv_goto (tgt := 183) hx hb dX8_textured_369 (by decide) ?_
    exact h _ _ _ _ _ _ _ _ _ _ _ _ _ _ _ _ C w (lv_sub hl [0, 1, 2, 3] rfl)
set_option maxHeartbeats 4000000 in
set_option maxRecDepth 100000 in
theorem b_X8_textured_302 (d : Nat) (x1 : Int32) (x2 : Int32) (x3 : Int32) (x4 : Int32) (x5 : Int32) (σ : tk_S) (Q : tk_S → Prop) (h : (x2 ≤ x5 → g_X8_textured (d + 1) 364 [(0, aN 132), (1, aI x1), (2, aI x2), (3, aI x3), (4, aI x4)] σ Q) ∧ (¬ x2 ≤ x5 → (x4 = 0 → g_X8_textured (d + 1) 364 [(0, aN 132), (1, aI x1), (2, aI x2), (3, aI x3), (4, aI x4)] σ Q) ∧ (¬ x4 = 0 → vp_in x2 12 ∧ (((((σ.1 149 (Int32.toNatClampNeg x2)) >>> (x5 &&& 31)) &&& 1) = 0 → g_X8_textured (d + 1) 302 [(0, aN 132), (1, aI x1), (2, aI x2), (3, aI x3), (4, aI 1), (5, aI (x5 + 1))] σ Q) ∧ (¬ (((σ.1 149 (Int32.toNatClampNeg x2)) >>> (x5 &&& 31)) &&& 1) = 0 → vp_in x5 12 ∧ (vp_in x2 12 ∧ (vp_in ((4 * (σ.1 147 (Int32.toNatClampNeg x5))) + (σ.1 147 (Int32.toNatClampNeg x2))) 16 ∧ (((σ.1 142 (Int32.toNatClampNeg ((4 * (σ.1 147 (Int32.toNatClampNeg x5))) + (σ.1 147 (Int32.toNatClampNeg x2))))) = 0 → g_X8_textured (d + 1) 302 [(0, aN 132), (1, aI x1), (2, aI x2), (3, aI x3), (4, aI 0), (5, aI (x5 + 1))] σ Q) ∧ (¬ (σ.1 142 (Int32.toNatClampNeg ((4 * (σ.1 147 (Int32.toNatClampNeg x5))) + (σ.1 147 (Int32.toNatClampNeg x2))))) = 0 → g_X8_textured (d + 1) 302 [(0, aN 132), (1, aI x1), (2, aI x2), (3, aI x3), (4, aI 1), (5, aI (x5 + 1))] σ Q))))))))) : g_X8_textured (d + 1) 302 [(0, aN 132), (1, aI x1), (2, aI x2), (3, aI x3), (4, aI x4), (5, aI x5)] σ Q := by
  intro p l e s m args below meth c D cy ad base H locs ls C w hl
  obtain ⟨hx, hb, hml, hown, hts, hr, hlk⟩ := id C
  have hl : lv_has ls 6 [(0, .ref (ad 132)), (1, .int x1), (2, .int x2), (3, .int x3), (4, .int x4), (5, .int x5)] := hl
  refine lv_iload hx hb dX8_textured_302 (lv_at hl 5 rfl) ?_
  refine lv_iload_n hx hb dX8_textured_304 rfl (lv_at hl 2 rfl) ?_
  refine lv_icmp_ge (tgt := 364) hx hb dX8_textured_305 (by decide) (fun c1 => ?_) (fun c1 => ?_)
  · have h := h.1 c1
    exact h _ _ _ _ _ _ _ _ _ _ _ _ _ _ _ _ C w (lv_sub hl [0, 1, 2, 3, 4] rfl)
  · have h := h.2 c1
    refine lv_iload hx hb dX8_textured_308 (lv_at hl 4 rfl) ?_
    refine lv_if_eq (tgt := 364) hx hb dX8_textured_310 (by decide) (fun c2 => ?_) (fun c2 => ?_)
    · have h := h.1 c2
      exact h _ _ _ _ _ _ _ _ _ _ _ _ _ _ _ _ C w (lv_sub hl [0, 1, 2, 3, 4] rfl)
    · have h := h.2 c2
      refine lv_aload_n hx hb dX8_textured_313 rfl (lv_at hl 0 rfl) ?_
      refine tk_get (k := 132) (v := .ref (ad 149)) hx hb hts hown w rfl rfl inlX8 19 (by decide) mw_118 rfl dX8_textured_314 ?_
      refine lv_iload_n hx hb dX8_textured_317 rfl (lv_at hl 2 rfl) ?_
      obtain ⟨hi3, h⟩ := h
      refine tk_iald (k := 149) hx hb w rfl hi3 dX8_textured_318 ?_
      refine lv_iload hx hb dX8_textured_319 (lv_at hl 5 rfl) ?_
      refine lv_ishr hx hb dX8_textured_321 ?_
      refine lv_iconst (v := 1) hx hb dX8_textured_322 (by decide) ?_
      refine lv_iand hx hb dX8_textured_323 ?_
      refine lv_if_eq (tgt := 351) hx hb dX8_textured_324 (by decide) (fun c4 => ?_) (fun c4 => ?_)
      · have h := h.1 c4
        refine lv_iconst (v := 1) hx hb dX8_textured_351 (by decide) ?_
        refine lv_goto (tgt := 356) hx hb dX8_textured_352 (by decide) ?_
        refine lv_istore (lv' := [(4, .int 1), (0, .ref (ad 132)), (1, .int x1), (2, .int x2), (3, .int x3), (5, .int x5)]) hx hb dX8_textured_356 hl (by decide) rfl (fun ls hl => ?_)
        refine lv_iinc (v := x5 + 1) (lv' := [(5, .int (x5 + 1)), (4, .int 1), (0, .ref (ad 132)), (1, .int x1), (2, .int x2), (3, .int x3)]) hx hb dX8_textured_358 hl (k := 5) rfl rfl (by decide) rfl (fun ls hl => ?_)
        refine lv_goto (tgt := 302) hx hb dX8_textured_361 (by decide) ?_
        exact h _ _ _ _ _ _ _ _ _ _ _ _ _ _ _ _ C w (lv_sub hl [2, 3, 4, 5, 1, 0] rfl)
      · have h := h.2 c4
        refine lv_aload_n hx hb dX8_textured_327 rfl (lv_at hl 0 rfl) ?_
        refine tk_get (k := 132) (v := .ref (ad 142)) hx hb hts hown w rfl rfl inlX8 12 (by decide) mw_111 rfl dX8_textured_328 ?_
        refine lv_iconst (v := 4) hx hb dX8_textured_331 (by decide) ?_
        refine lv_aload_n hx hb dX8_textured_332 rfl (lv_at hl 0 rfl) ?_
        refine tk_get (k := 132) (v := .ref (ad 147)) hx hb hts hown w rfl rfl inlX8 17 (by decide) mw_116 rfl dX8_textured_333 ?_
        refine lv_iload hx hb dX8_textured_336 (lv_at hl 5 rfl) ?_
        obtain ⟨hi5, h⟩ := h
        refine tk_iald (k := 147) hx hb w rfl hi5 dX8_textured_338 ?_
        refine lv_imul hx hb dX8_textured_339 ?_
        refine lv_aload_n hx hb dX8_textured_340 rfl (lv_at hl 0 rfl) ?_
        refine tk_get (k := 132) (v := .ref (ad 147)) hx hb hts hown w rfl rfl inlX8 17 (by decide) mw_116 rfl dX8_textured_341 ?_
        refine lv_iload_n hx hb dX8_textured_344 rfl (lv_at hl 2 rfl) ?_
        obtain ⟨hi6, h⟩ := h
        refine tk_iald (k := 147) hx hb w rfl hi6 dX8_textured_345 ?_
        refine lv_iadd hx hb dX8_textured_346 ?_
        obtain ⟨hi7, h⟩ := h
        refine tk_zald (k := 142) hx hb w rfl hi7 dX8_textured_347 ?_
        refine lv_if_eq (tgt := 355) hx hb dX8_textured_348 (by decide) (fun c8 => ?_) (fun c8 => ?_)
        · have h := h.1 c8
          refine lv_iconst (v := 0) hx hb dX8_textured_355 (by decide) ?_
          refine lv_istore (lv' := [(4, .int 0), (0, .ref (ad 132)), (1, .int x1), (2, .int x2), (3, .int x3), (5, .int x5)]) hx hb dX8_textured_356 hl (by decide) rfl (fun ls hl => ?_)
          refine lv_iinc (v := x5 + 1) (lv' := [(5, .int (x5 + 1)), (4, .int 0), (0, .ref (ad 132)), (1, .int x1), (2, .int x2), (3, .int x3)]) hx hb dX8_textured_358 hl (k := 5) rfl rfl (by decide) rfl (fun ls hl => ?_)
          refine lv_goto (tgt := 302) hx hb dX8_textured_361 (by decide) ?_
          exact h _ _ _ _ _ _ _ _ _ _ _ _ _ _ _ _ C w (lv_sub hl [2, 3, 4, 5, 1, 0] rfl)
        · have h := h.2 c8
          refine lv_iconst (v := 1) hx hb dX8_textured_351 (by decide) ?_
          refine lv_goto (tgt := 356) hx hb dX8_textured_352 (by decide) ?_
          refine lv_istore (lv' := [(4, .int 1), (0, .ref (ad 132)), (1, .int x1), (2, .int x2), (3, .int x3), (5, .int x5)]) hx hb dX8_textured_356 hl (by decide) rfl (fun ls hl => ?_)
          refine lv_iinc (v := x5 + 1) (lv' := [(5, .int (x5 + 1)), (4, .int 1), (0, .ref (ad 132)), (1, .int x1), (2, .int x2), (3, .int x3)]) hx hb dX8_textured_358 hl (k := 5) rfl rfl (by decide) rfl (fun ls hl => ?_)
          refine lv_goto (tgt := 302) hx hb dX8_textured_361 (by decide) ?_
          exact h _ _ _ _ _ _ _ _ _ _ _ _ _ _ _ _ C w (lv_sub hl [2, 3, 4, 5, 1, 0] rfl)
set_option maxHeartbeats 4000000 in
set_option maxRecDepth 100000 in
theorem b_X8_textured_218 (d : Nat) (x1 : Int32) (x2 : Int32) (x3 : Int32) (σ : tk_S) (Q : tk_S → Prop) (h : vp_in x2 12 ∧ (vp_in x2 12 ∧ (vp_in x2 12 ∧ ((¬ ((tk_up σ 147 (Int32.toNatClampNeg x2) ((σ.1 147 (Int32.toNatClampNeg x2)) + 1)).1 147 (Int32.toNatClampNeg x2)) = 4 → vp_in x2 12 ∧ (vp_in ((tk_up σ 147 (Int32.toNatClampNeg x2) ((σ.1 147 (Int32.toNatClampNeg x2)) + 1)).1 147 (Int32.toNatClampNeg x2)) 4 ∧ (∀ z7 : Int32, z7 = x3 + ((tk_up σ 147 (Int32.toNatClampNeg x2) ((σ.1 147 (Int32.toNatClampNeg x2)) + 1)).1 143 (Int32.toNatClampNeg ((tk_up σ 147 (Int32.toNatClampNeg x2) ((σ.1 147 (Int32.toNatClampNeg x2)) + 1)).1 147 (Int32.toNatClampNeg x2)))) → ((((tk_up σ 147 (Int32.toNatClampNeg x2) ((σ.1 147 (Int32.toNatClampNeg x2)) + 1)).1 132 21) = (-1) → g_X8_textured (d + 1) 302 [(0, aN 132), (1, aI x1), (2, aI x2), (3, aI z7), (4, aI 1), (5, aI 0)] (tk_up σ 147 (Int32.toNatClampNeg x2) ((σ.1 147 (Int32.toNatClampNeg x2)) + 1)) Q) ∧ (¬ ((tk_up σ 147 (Int32.toNatClampNeg x2) ((σ.1 147 (Int32.toNatClampNeg x2)) + 1)).1 132 21) = (-1) → (((tk_up σ 147 (Int32.toNatClampNeg x2) ((σ.1 147 (Int32.toNatClampNeg x2)) + 1)).1 132 21) ≤ (z7 + (x1 * ((((tk_up σ 147 (Int32.toNatClampNeg x2) ((σ.1 147 (Int32.toNatClampNeg x2)) + 1)).1 132 20) - 1) - x2))) → g_X8_textured (d + 1) 302 [(0, aN 132), (1, aI x1), (2, aI x2), (3, aI z7), (4, aI 0), (5, aI 0)] (tk_up σ 147 (Int32.toNatClampNeg x2) ((σ.1 147 (Int32.toNatClampNeg x2)) + 1)) Q) ∧ (¬ ((tk_up σ 147 (Int32.toNatClampNeg x2) ((σ.1 147 (Int32.toNatClampNeg x2)) + 1)).1 132 21) ≤ (z7 + (x1 * ((((tk_up σ 147 (Int32.toNatClampNeg x2) ((σ.1 147 (Int32.toNatClampNeg x2)) + 1)).1 132 20) - 1) - x2))) → g_X8_textured (d + 1) 302 [(0, aN 132), (1, aI x1), (2, aI x2), (3, aI z7), (4, aI 1), (5, aI 0)] (tk_up σ 147 (Int32.toNatClampNeg x2) ((σ.1 147 (Int32.toNatClampNeg x2)) + 1)) Q)))))) ∧ (((tk_up σ 147 (Int32.toNatClampNeg x2) ((σ.1 147 (Int32.toNatClampNeg x2)) + 1)).1 147 (Int32.toNatClampNeg x2)) = 4 → vp_in x2 12 ∧ (∀ σ11 : tk_S, σ11 = tk_up (tk_up σ 147 (Int32.toNatClampNeg x2) ((σ.1 147 (Int32.toNatClampNeg x2)) + 1)) 147 (Int32.toNatClampNeg x2) (-1) → g_X8_textured (d + 1) 183 [(0, aN 132), (1, aI x1), (2, aI (x2 + (-1))), (3, aI x3)] σ11 Q)))))) : g_X8_textured (d + 1) 218 [(0, aN 132), (1, aI x1), (2, aI x2), (3, aI x3)] σ Q := by
  intro p l e s m args below meth c D cy ad base H locs ls C w hl
  obtain ⟨hx, hb, hml, hown, hts, hr, hlk⟩ := id C
  have hl : lv_has ls 6 [(0, .ref (ad 132)), (1, .int x1), (2, .int x2), (3, .int x3)] := hl
  refine lv_aload_n hx hb dX8_textured_218 rfl (lv_at hl 0 rfl) ?_
  refine tk_get (k := 132) (v := .ref (ad 147)) hx hb hts hown w rfl rfl inlX8 17 (by decide) mw_116 rfl dX8_textured_219 ?_
  refine lv_iload_n hx hb dX8_textured_222 rfl (lv_at hl 2 rfl) ?_
  refine lv_dup2_11 hx hb dX8_textured_223 rfl rfl ?_
  obtain ⟨hi1, h⟩ := h
  refine tk_iald (k := 147) hx hb w rfl hi1 dX8_textured_224 ?_
  refine lv_iconst (v := 1) hx hb dX8_textured_225 (by decide) ?_
  refine lv_iadd hx hb dX8_textured_226 ?_
  obtain ⟨hi2, h⟩ := h
  refine tk_iast (k := 147) hx hb w rfl hi2 dX8_textured_227 (fun H locs w => ?_)
  refine lv_aload_n hx hb dX8_textured_228 rfl (lv_at hl 0 rfl) ?_
  refine tk_get (k := 132) (v := .ref (ad 147)) hx hb hts hown w rfl rfl inlX8 17 (by decide) mw_116 rfl dX8_textured_229 ?_
  refine lv_iload_n hx hb dX8_textured_232 rfl (lv_at hl 2 rfl) ?_
  obtain ⟨hi3, h⟩ := h
  refine tk_iald (k := 147) hx hb w rfl hi3 dX8_textured_233 ?_
  refine lv_iconst (v := 4) hx hb dX8_textured_234 (by decide) ?_
  refine lv_icmp_ne (tgt := 251) hx hb dX8_textured_235 (by decide) (fun c4 => ?_) (fun c4 => ?_)
  · have h := h.1 c4
    refine lv_iload_n hx hb dX8_textured_251 rfl (lv_at hl 3 rfl) ?_
    refine lv_aload_n hx hb dX8_textured_252 rfl (lv_at hl 0 rfl) ?_
    refine tk_get (k := 132) (v := .ref (ad 143)) hx hb hts hown w rfl rfl inlX8 13 (by decide) mw_112 rfl dX8_textured_253 ?_
    refine lv_aload_n hx hb dX8_textured_256 rfl (lv_at hl 0 rfl) ?_
    refine tk_get (k := 132) (v := .ref (ad 147)) hx hb hts hown w rfl rfl inlX8 17 (by decide) mw_116 rfl dX8_textured_257 ?_
    refine lv_iload_n hx hb dX8_textured_260 rfl (lv_at hl 2 rfl) ?_
    obtain ⟨hi5, h⟩ := h
    refine tk_iald (k := 147) hx hb w rfl hi5 dX8_textured_261 ?_
    obtain ⟨hi6, h⟩ := h
    refine tk_iald (k := 143) hx hb w rfl hi6 dX8_textured_262 ?_
    refine lv_iadd hx hb dX8_textured_263 ?_
    refine lv_topi (fun z7 e_z7 => ?_)
    have h := h z7 e_z7
    refine lv_istore_n (lv' := [(3, .int z7), (0, .ref (ad 132)), (1, .int x1), (2, .int x2)]) hx hb dX8_textured_264 rfl hl (by decide) rfl (fun ls hl => ?_)
    refine lv_aload_n hx hb dX8_textured_265 rfl (lv_at hl 1 rfl) ?_
    refine tk_get (k := 132) (v := .int ((tk_up σ 147 (Int32.toNatClampNeg x2) ((σ.1 147 (Int32.toNatClampNeg x2)) + 1)).1 132 21)) hx hb hts hown w rfl rfl inlX8 21 (by decide) mw_640 rfl dX8_textured_266 ?_
    refine lv_iconst (v := (-1)) hx hb dX8_textured_269 (by decide) ?_
    refine lv_icmp_eq (tgt := 292) hx hb dX8_textured_270 (by decide) (fun c8 => ?_) (fun c8 => ?_)
    · have h := h.1 c8
      refine lv_iconst (v := 1) hx hb dX8_textured_292 (by decide) ?_
      refine lv_goto (tgt := 297) hx hb dX8_textured_293 (by decide) ?_
      refine lv_istore (lv' := [(4, .int 1), (3, .int z7), (0, .ref (ad 132)), (1, .int x1), (2, .int x2)]) hx hb dX8_textured_297 hl (by decide) rfl (fun ls hl => ?_)
      refine lv_iconst (v := 0) hx hb dX8_textured_299 (by decide) ?_
      refine lv_istore (lv' := [(5, .int 0), (4, .int 1), (3, .int z7), (0, .ref (ad 132)), (1, .int x1), (2, .int x2)]) hx hb dX8_textured_300 hl (by decide) rfl (fun ls hl => ?_)
      exact h _ _ _ _ _ _ _ _ _ _ _ _ _ _ _ _ C w (lv_sub hl [3, 4, 5, 2, 1, 0] rfl)
    · have h := h.2 c8
      refine lv_iload_n hx hb dX8_textured_273 rfl (lv_at hl 0 rfl) ?_
      refine lv_iload_n hx hb dX8_textured_274 rfl (lv_at hl 2 rfl) ?_
      refine lv_aload_n hx hb dX8_textured_275 rfl (lv_at hl 1 rfl) ?_
      refine tk_get (k := 132) (v := .int ((tk_up σ 147 (Int32.toNatClampNeg x2) ((σ.1 147 (Int32.toNatClampNeg x2)) + 1)).1 132 20)) hx hb hts hown w rfl rfl inlX8 20 (by decide) mw_639 rfl dX8_textured_276 ?_
      refine lv_iconst (v := 1) hx hb dX8_textured_279 (by decide) ?_
      refine lv_isub hx hb dX8_textured_280 ?_
      refine lv_iload_n hx hb dX8_textured_281 rfl (lv_at hl 3 rfl) ?_
      refine lv_isub hx hb dX8_textured_282 ?_
      refine lv_imul hx hb dX8_textured_283 ?_
      refine lv_iadd hx hb dX8_textured_284 ?_
      refine lv_aload_n hx hb dX8_textured_285 rfl (lv_at hl 1 rfl) ?_
      refine tk_get (k := 132) (v := .int ((tk_up σ 147 (Int32.toNatClampNeg x2) ((σ.1 147 (Int32.toNatClampNeg x2)) + 1)).1 132 21)) hx hb hts hown w rfl rfl inlX8 21 (by decide) mw_640 rfl dX8_textured_286 ?_
      refine lv_icmp_ge (tgt := 296) hx hb dX8_textured_289 (by decide) (fun c9 => ?_) (fun c9 => ?_)
      · have h := h.1 c9
        refine lv_iconst (v := 0) hx hb dX8_textured_296 (by decide) ?_
        refine lv_istore (lv' := [(4, .int 0), (3, .int z7), (0, .ref (ad 132)), (1, .int x1), (2, .int x2)]) hx hb dX8_textured_297 hl (by decide) rfl (fun ls hl => ?_)
        refine lv_iconst (v := 0) hx hb dX8_textured_299 (by decide) ?_
        refine lv_istore (lv' := [(5, .int 0), (4, .int 0), (3, .int z7), (0, .ref (ad 132)), (1, .int x1), (2, .int x2)]) hx hb dX8_textured_300 hl (by decide) rfl (fun ls hl => ?_)
        exact h _ _ _ _ _ _ _ _ _ _ _ _ _ _ _ _ C w (lv_sub hl [3, 4, 5, 2, 1, 0] rfl)
      · have h := h.2 c9
        refine lv_iconst (v := 1) hx hb dX8_textured_292 (by decide) ?_
        refine lv_goto (tgt := 297) hx hb dX8_textured_293 (by decide) ?_
        refine lv_istore (lv' := [(4, .int 1), (3, .int z7), (0, .ref (ad 132)), (1, .int x1), (2, .int x2)]) hx hb dX8_textured_297 hl (by decide) rfl (fun ls hl => ?_)
        refine lv_iconst (v := 0) hx hb dX8_textured_299 (by decide) ?_
        refine lv_istore (lv' := [(5, .int 0), (4, .int 1), (3, .int z7), (0, .ref (ad 132)), (1, .int x1), (2, .int x2)]) hx hb dX8_textured_300 hl (by decide) rfl (fun ls hl => ?_)
        exact h _ _ _ _ _ _ _ _ _ _ _ _ _ _ _ _ C w (lv_sub hl [3, 4, 5, 2, 1, 0] rfl)
  · have h := h.2 c4
    refine lv_aload_n hx hb dX8_textured_238 rfl (lv_at hl 0 rfl) ?_
    refine tk_get (k := 132) (v := .ref (ad 147)) hx hb hts hown w rfl rfl inlX8 17 (by decide) mw_116 rfl dX8_textured_239 ?_
    refine lv_iload_n hx hb dX8_textured_242 rfl (lv_at hl 2 rfl) ?_
    refine lv_iconst (v := (-1)) hx hb dX8_textured_243 (by decide) ?_
    obtain ⟨hi10, h⟩ := h
    refine tk_iast (k := 147) hx hb w rfl hi10 dX8_textured_244 (fun H locs w => ?_)
    generalize e_σ11 : tk_up (tk_up σ 147 (Int32.toNatClampNeg x2) ((σ.1 147 (Int32.toNatClampNeg x2)) + 1)) 147 (Int32.toNatClampNeg x2) (-1) = σ11 at w
    have h := h σ11 e_σ11.symm
    refine lv_iinc (v := x2 + (-1)) (lv' := [(2, .int (x2 + (-1))), (0, .ref (ad 132)), (1, .int x1), (3, .int x3)]) hx hb dX8_textured_245 hl (k := 2) rfl rfl (by decide) rfl (fun ls hl => ?_)
    refine lv_goto (tgt := 183) hx hb dX8_textured_248 (by decide) ?_
    exact h _ _ _ _ _ _ _ _ _ _ _ _ _ _ _ _ C w (lv_sub hl [1, 2, 0, 3] rfl)
set_option maxHeartbeats 4000000 in
set_option maxRecDepth 100000 in
theorem b_X8_textured_183 (d : Nat) (x1 : Int32) (x2 : Int32) (x3 : Int32) (σ : tk_S) (Q : tk_S → Prop) (h : (x2 < 0 → Q σ) ∧ (¬ x2 < 0 → ((σ.1 132 20) ≤ 0 → Q σ) ∧ (¬ (σ.1 132 20) ≤ 0 → vp_in x2 12 ∧ (((σ.1 147 (Int32.toNatClampNeg x2)) = (-1) → g_X8_textured (d + 1) 218 [(0, aN 132), (1, aI x1), (2, aI x2), (3, aI x3)] σ Q) ∧ (¬ (σ.1 147 (Int32.toNatClampNeg x2)) = (-1) → vp_in x2 12 ∧ (vp_in (σ.1 147 (Int32.toNatClampNeg x2)) 4 ∧ (∀ z7 : Int32, z7 = x3 - (σ.1 143 (Int32.toNatClampNeg (σ.1 147 (Int32.toNatClampNeg x2)))) → (g_X8_textured (d + 1) 218 [(0, aN 132), (1, aI x1), (2, aI x2), (3, aI z7)] σ Q)))))))) : g_X8_textured (d + 1) 183 [(0, aN 132), (1, aI x1), (2, aI x2), (3, aI x3)] σ Q := by
  intro p l e s m args below meth c D cy ad base H locs ls C w hl
  obtain ⟨hx, hb, hml, hown, hts, hr, hlk⟩ := id C
  have hl : lv_has ls 6 [(0, .ref (ad 132)), (1, .int x1), (2, .int x2), (3, .int x3)] := hl
  refine lv_iload_n hx hb dX8_textured_183 rfl (lv_at hl 2 rfl) ?_
  refine lv_if_lt (tgt := 435) hx hb dX8_textured_184 (by decide) (fun c1 => ?_) (fun c1 => ?_)
  · have h := h.1 c1
    exact tk_retv C w dX8_textured_435 h
  · have h := h.2 c1
    refine lv_aload_n hx hb dX8_textured_187 rfl (lv_at hl 0 rfl) ?_
    refine tk_get (k := 132) (v := .int (σ.1 132 20)) hx hb hts hown w rfl rfl inlX8 20 (by decide) mw_639 rfl dX8_textured_188 ?_
    refine lv_if_le (tgt := 435) hx hb dX8_textured_191 (by decide) (fun c2 => ?_) (fun c2 => ?_)
    · have h := h.1 c2
      exact tk_retv C w dX8_textured_435 h
    · have h := h.2 c2
      refine lv_aload_n hx hb dX8_textured_194 rfl (lv_at hl 0 rfl) ?_
      refine tk_get (k := 132) (v := .ref (ad 147)) hx hb hts hown w rfl rfl inlX8 17 (by decide) mw_116 rfl dX8_textured_195 ?_
      refine lv_iload_n hx hb dX8_textured_198 rfl (lv_at hl 2 rfl) ?_
      obtain ⟨hi3, h⟩ := h
      refine tk_iald (k := 147) hx hb w rfl hi3 dX8_textured_199 ?_
      refine lv_iconst (v := (-1)) hx hb dX8_textured_200 (by decide) ?_
      refine lv_icmp_eq (tgt := 218) hx hb dX8_textured_201 (by decide) (fun c4 => ?_) (fun c4 => ?_)
      · have h := h.1 c4
        exact h _ _ _ _ _ _ _ _ _ _ _ _ _ _ _ _ C w (lv_sub hl [0, 1, 2, 3] rfl)
      · have h := h.2 c4
        refine lv_iload_n hx hb dX8_textured_204 rfl (lv_at hl 3 rfl) ?_
        refine lv_aload_n hx hb dX8_textured_205 rfl (lv_at hl 0 rfl) ?_
        refine tk_get (k := 132) (v := .ref (ad 143)) hx hb hts hown w rfl rfl inlX8 13 (by decide) mw_112 rfl dX8_textured_206 ?_
        refine lv_aload_n hx hb dX8_textured_209 rfl (lv_at hl 0 rfl) ?_
        refine tk_get (k := 132) (v := .ref (ad 147)) hx hb hts hown w rfl rfl inlX8 17 (by decide) mw_116 rfl dX8_textured_210 ?_
        refine lv_iload_n hx hb dX8_textured_213 rfl (lv_at hl 2 rfl) ?_
        obtain ⟨hi5, h⟩ := h
        refine tk_iald (k := 147) hx hb w rfl hi5 dX8_textured_214 ?_
        obtain ⟨hi6, h⟩ := h
        refine tk_iald (k := 143) hx hb w rfl hi6 dX8_textured_215 ?_
        refine lv_isub hx hb dX8_textured_216 ?_
        refine lv_topi (fun z7 e_z7 => ?_)
        have h := h z7 e_z7
        refine lv_istore_n (lv' := [(3, .int z7), (0, .ref (ad 132)), (1, .int x1), (2, .int x2)]) hx hb dX8_textured_217 rfl hl (by decide) rfl (fun ls hl => ?_)
        exact h _ _ _ _ _ _ _ _ _ _ _ _ _ _ _ _ C w (lv_sub hl [1, 2, 3, 0] rfl)
set_option maxHeartbeats 4000000 in
set_option maxRecDepth 100000 in
theorem b_X8_textured_123 (d : Nat) (x1 : Int32) (x2 : Int32) (σ : tk_S) (Q : tk_S → Prop) (h : (4 ≤ x2 → ∀ σ2 : tk_S, σ2 = tk_up (tk_up σ 132 21 (-1)) 147 (Int32.toNatClampNeg 0) (-1) → (¬ (σ2.1 132 20) = 0 → g_X8_textured (d + 1) 183 [(0, aN 132), (1, aI x1), (2, aI 0), (3, aI 0)] σ2 Q) ∧ ((σ2.1 132 20) = 0 → g_X8_textured (d + 1) 183 [(0, aN 132), (1, aI x1), (2, aI 0), (3, aI 0)] (tk_up σ2 132 21 0) Q)) ∧ (¬ 4 ≤ x2 → vp_in x2 4 ∧ ((x1 ≤ (σ.1 143 (Int32.toNatClampNeg x2)) → g_X8_textured (d + 1) 123 [(0, aN 132), (1, aI x1), (2, aI (x2 + 1))] σ Q) ∧ (¬ x1 ≤ (σ.1 143 (Int32.toNatClampNeg x2)) → vp_in x2 4 ∧ (∀ z7 : Int32, z7 = σ.1 143 (Int32.toNatClampNeg x2) → (g_X8_textured (d + 1) 123 [(0, aN 132), (1, aI z7), (2, aI (x2 + 1))] σ Q)))))) : g_X8_textured (d + 1) 123 [(0, aN 132), (1, aI x1), (2, aI x2)] σ Q := by
  intro p l e s m args below meth c D cy ad base H locs ls C w hl
  obtain ⟨hx, hb, hml, hown, hts, hr, hlk⟩ := id C
  have hl : lv_has ls 6 [(0, .ref (ad 132)), (1, .int x1), (2, .int x2)] := hl
  refine lv_iload_n hx hb dX8_textured_123 rfl (lv_at hl 2 rfl) ?_
  refine lv_iconst (v := 4) hx hb dX8_textured_124 (by decide) ?_
  refine lv_icmp_ge (tgt := 155) hx hb dX8_textured_125 (by decide) (fun c1 => ?_) (fun c1 => ?_)
  · have h := h.1 c1
    refine lv_aload_n hx hb dX8_textured_155 rfl (lv_at hl 0 rfl) ?_
    refine lv_iconst (v := (-1)) hx hb dX8_textured_156 (by decide) ?_
    refine tk_puti (k := 132) (ty := .int) hx hb hts hown w rfl rfl inlX8 tyX8 tyX8_ok nmX8 21 (by decide) mw_640 rfl rfl (by decide +kernel) rfl rfl dX8_textured_157 (fun H locs w => ?_)
    refine lv_iconst (v := 0) hx hb dX8_textured_160 (by decide) ?_
    refine lv_istore_n (lv' := [(2, .int 0), (0, .ref (ad 132)), (1, .int x1)]) hx hb dX8_textured_161 rfl hl (by decide) rfl (fun ls hl => ?_)
    refine lv_iconst (v := 0) hx hb dX8_textured_162 (by decide) ?_
    refine lv_istore_n (lv' := [(3, .int 0), (2, .int 0), (0, .ref (ad 132)), (1, .int x1)]) hx hb dX8_textured_163 rfl hl (by decide) rfl (fun ls hl => ?_)
    refine lv_aload_n hx hb dX8_textured_164 rfl (lv_at hl 2 rfl) ?_
    refine tk_get (k := 132) (v := .ref (ad 147)) hx hb hts hown w rfl rfl inlX8 17 (by decide) mw_116 rfl dX8_textured_165 ?_
    refine lv_iconst (v := 0) hx hb dX8_textured_168 (by decide) ?_
    refine lv_iconst (v := (-1)) hx hb dX8_textured_169 (by decide) ?_
    refine tk_iast (k := 147) hx hb w rfl (by unfold vp_in; decide) dX8_textured_170 (fun H locs w => ?_)
    generalize e_σ2 : tk_up (tk_up σ 132 21 (-1)) 147 (Int32.toNatClampNeg 0) (-1) = σ2 at w
    have h := h σ2 e_σ2.symm
    refine lv_aload_n hx hb dX8_textured_171 rfl (lv_at hl 2 rfl) ?_
    refine tk_get (k := 132) (v := .int (σ2.1 132 20)) hx hb hts hown w rfl rfl inlX8 20 (by decide) mw_639 rfl dX8_textured_172 ?_
    refine lv_if_ne (tgt := 183) hx hb dX8_textured_175 (by decide) (fun c3 => ?_) (fun c3 => ?_)
    · have h := h.1 c3
      exact h _ _ _ _ _ _ _ _ _ _ _ _ _ _ _ _ C w (lv_sub hl [2, 3, 1, 0] rfl)
    · have h := h.2 c3
      refine lv_aload_n hx hb dX8_textured_178 rfl (lv_at hl 2 rfl) ?_
      refine lv_iconst (v := 0) hx hb dX8_textured_179 (by decide) ?_
      refine tk_puti (k := 132) (ty := .int) hx hb hts hown w rfl rfl inlX8 tyX8 tyX8_ok nmX8 21 (by decide) mw_640 rfl rfl (by decide +kernel) rfl rfl dX8_textured_180 (fun H locs w => ?_)
      exact h _ _ _ _ _ _ _ _ _ _ _ _ _ _ _ _ C w (lv_sub hl [2, 3, 1, 0] rfl)
  · have h := h.2 c1
    refine lv_aload_n hx hb dX8_textured_128 rfl (lv_at hl 0 rfl) ?_
    refine tk_get (k := 132) (v := .ref (ad 143)) hx hb hts hown w rfl rfl inlX8 13 (by decide) mw_112 rfl dX8_textured_129 ?_
    refine lv_iload_n hx hb dX8_textured_132 rfl (lv_at hl 2 rfl) ?_
    obtain ⟨hi4, h⟩ := h
    refine tk_iald (k := 143) hx hb w rfl hi4 dX8_textured_133 ?_
    refine lv_iload_n hx hb dX8_textured_134 rfl (lv_at hl 1 rfl) ?_
    refine lv_icmp_ge (tgt := 147) hx hb dX8_textured_135 (by decide) (fun c5 => ?_) (fun c5 => ?_)
    · have h := h.1 c5
      refine lv_iload_n hx hb dX8_textured_147 rfl (lv_at hl 1 rfl) ?_
      refine lv_istore_n (lv' := [(1, .int x1), (0, .ref (ad 132)), (2, .int x2)]) hx hb dX8_textured_148 rfl hl (by decide) rfl (fun ls hl => ?_)
      refine lv_iinc (v := x2 + 1) (lv' := [(2, .int (x2 + 1)), (1, .int x1), (0, .ref (ad 132))]) hx hb dX8_textured_149 hl (k := 2) rfl rfl (by decide) rfl (fun ls hl => ?_)
      refine lv_goto (tgt := 123) hx hb dX8_textured_152 (by decide) ?_
      exact h _ _ _ _ _ _ _ _ _ _ _ _ _ _ _ _ C w (lv_sub hl [2, 1, 0] rfl)
    · have h := h.2 c5
      refine lv_aload_n hx hb dX8_textured_138 rfl (lv_at hl 0 rfl) ?_
      refine tk_get (k := 132) (v := .ref (ad 143)) hx hb hts hown w rfl rfl inlX8 13 (by decide) mw_112 rfl dX8_textured_139 ?_
      refine lv_iload_n hx hb dX8_textured_142 rfl (lv_at hl 2 rfl) ?_
      obtain ⟨hi6, h⟩ := h
      refine tk_iald (k := 143) hx hb w rfl hi6 dX8_textured_143 ?_
      refine lv_goto (tgt := 148) hx hb dX8_textured_144 (by decide) ?_
      refine lv_topi (fun z7 e_z7 => ?_)
      have h := h z7 e_z7
      refine lv_istore_n (lv' := [(1, .int z7), (0, .ref (ad 132)), (2, .int x2)]) hx hb dX8_textured_148 rfl hl (by decide) rfl (fun ls hl => ?_)
      refine lv_iinc (v := x2 + 1) (lv' := [(2, .int (x2 + 1)), (1, .int z7), (0, .ref (ad 132))]) hx hb dX8_textured_149 hl (k := 2) rfl rfl (by decide) rfl (fun ls hl => ?_)
      refine lv_goto (tgt := 123) hx hb dX8_textured_152 (by decide) ?_
      exact h _ _ _ _ _ _ _ _ _ _ _ _ _ _ _ _ C w (lv_sub hl [2, 1, 0] rfl)
set_option maxHeartbeats 4000000 in
set_option maxRecDepth 100000 in
theorem b_X8_textured_50 (d : Nat) (x1 : Int32) (x2 : Int32) (σ : tk_S) (Q : tk_S → Prop) (h : ((σ.1 132 20) ≤ x2 → g_X8_textured (d + 1) 7 [(0, aN 132), (1, aI (x1 + 1))] (tk_up σ 132 20 ((σ.1 132 20) + 1)) Q) ∧ (¬ (σ.1 132 20) ≤ x2 → vp_in (σ.1 132 20) 12 ∧ (vp_in x2 12 ∧ (p_X8_farOf d [aN 132, aI x1, aI (σ.1 146 (Int32.toNatClampNeg x2))] σ (fun y6 σ5 => (3 < y6 → vp_in (σ.1 132 20) 12 ∧ (g_X8_textured (d + 1) 50 [(0, aN 132), (1, aI x1), (2, aI (x2 + 1))] (tk_up σ5 149 (Int32.toNatClampNeg (σ.1 132 20)) ((σ.1 149 (Int32.toNatClampNeg (σ.1 132 20))) ||| 0)) Q)) ∧ (¬ 3 < y6 → vp_in (σ.1 132 20) 12 ∧ (g_X8_textured (d + 1) 50 [(0, aN 132), (1, aI x1), (2, aI (x2 + 1))] (tk_up σ5 149 (Int32.toNatClampNeg (σ.1 132 20)) ((σ.1 149 (Int32.toNatClampNeg (σ.1 132 20))) ||| ((1 : Int32) <<< (x2 &&& 31)))) Q))))))) : g_X8_textured (d + 1) 50 [(0, aN 132), (1, aI x1), (2, aI x2)] σ Q := by
  intro p l e s m args below meth c D cy ad base H locs ls C w hl
  obtain ⟨hx, hb, hml, hown, hts, hr, hlk⟩ := id C
  have hl : lv_has ls 6 [(0, .ref (ad 132)), (1, .int x1), (2, .int x2)] := hl
  refine lv_iload_n hx hb dX8_textured_50 rfl (lv_at hl 2 rfl) ?_
  refine lv_aload_n hx hb dX8_textured_51 rfl (lv_at hl 0 rfl) ?_
  refine tk_get (k := 132) (v := .int (σ.1 132 20)) hx hb hts hown w rfl rfl inlX8 20 (by decide) mw_639 rfl dX8_textured_52 ?_
  refine lv_icmp_ge (tgt := 98) hx hb dX8_textured_55 (by decide) (fun c1 => ?_) (fun c1 => ?_)
  · have h := h.1 c1
    refine lv_aload_n hx hb dX8_textured_98 rfl (lv_at hl 0 rfl) ?_
    refine lv_dup hx hb dX8_textured_99 rfl ?_
    refine tk_get (k := 132) (v := .int (σ.1 132 20)) hx hb hts hown w rfl rfl inlX8 20 (by decide) mw_639 rfl dX8_textured_100 ?_
    refine lv_iconst (v := 1) hx hb dX8_textured_103 (by decide) ?_
    refine lv_iadd hx hb dX8_textured_104 ?_
    refine tk_puti (k := 132) (ty := .int) hx hb hts hown w rfl rfl inlX8 tyX8 tyX8_ok nmX8 20 (by decide) mw_639 rfl rfl (by decide +kernel) rfl rfl dX8_textured_105 (fun H locs w => ?_)
    refine lv_iinc (v := x1 + 1) (lv' := [(1, .int (x1 + 1)), (0, .ref (ad 132)), (2, .int x2)]) hx hb dX8_textured_108 hl (k := 1) rfl rfl (by decide) rfl (fun ls hl => ?_)
    refine lv_goto (tgt := 7) hx hb dX8_textured_111 (by decide) ?_
    exact h _ _ _ _ _ _ _ _ _ _ _ _ _ _ _ _ C w (lv_sub hl [1, 0] rfl)
  · have h := h.2 c1
    refine lv_aload_n hx hb dX8_textured_58 rfl (lv_at hl 0 rfl) ?_
    refine tk_get (k := 132) (v := .ref (ad 149)) hx hb hts hown w rfl rfl inlX8 19 (by decide) mw_118 rfl dX8_textured_59 ?_
    refine lv_aload_n hx hb dX8_textured_62 rfl (lv_at hl 0 rfl) ?_
    refine tk_get (k := 132) (v := .int (σ.1 132 20)) hx hb hts hown w rfl rfl inlX8 20 (by decide) mw_639 rfl dX8_textured_63 ?_
    refine lv_dup2_11 hx hb dX8_textured_66 rfl rfl ?_
    obtain ⟨hi2, h⟩ := h
    refine tk_iald (k := 149) hx hb w rfl hi2 dX8_textured_67 ?_
    refine lv_aload_n hx hb dX8_textured_68 rfl (lv_at hl 0 rfl) ?_
    refine lv_iload_n hx hb dX8_textured_69 rfl (lv_at hl 1 rfl) ?_
    refine lv_aload_n hx hb dX8_textured_70 rfl (lv_at hl 0 rfl) ?_
    refine tk_get (k := 132) (v := .ref (ad 146)) hx hb hts hown w rfl rfl inlX8 16 (by decide) mw_115 rfl dX8_textured_71 ?_
    refine lv_iload_n hx hb dX8_textured_74 rfl (lv_at hl 2 rfl) ?_
    obtain ⟨hi3, h⟩ := h
    refine tk_iald (k := 146) hx hb w rfl hi3 dX8_textured_75 ?_
    refine tk_cV C w (k := 132) rfl rfl (as := [aI x1, aI (σ.1 146 (Int32.toNatClampNeg x2))]) (rest := [.int (σ.1 149 (Int32.toNatClampNeg (σ.1 132 20))), .int (σ.1 132 20), .ref (ad 149)]) mw_400 mw_5 mw_397 mw_398 mw_399 hd_X8_farOf (by decide) hl.1 (Nat.le_of_ble_eq_true rfl) rfl dX8_textured_76 h (fun r4 σ5 H locs hq w => ?_)
    obtain ⟨y6, rfl, h⟩ := hq
    refine W.eq (g2 := F0 m 79 ls [.int y6, .int (σ.1 149 (Int32.toNatClampNeg (σ.1 132 20))), .int (σ.1 132 20), .ref (ad 149)]) rfl ?_
    refine lv_iconst (v := 3) hx hb dX8_textured_79 (by decide) ?_
    refine lv_icmp_gt (tgt := 89) hx hb dX8_textured_80 (by decide) (fun c7 => ?_) (fun c7 => ?_)
    · have h := h.1 c7
      refine lv_iconst (v := 0) hx hb dX8_textured_89 (by decide) ?_
      refine lv_ior hx hb dX8_textured_90 ?_
      obtain ⟨hi8, h⟩ := h
      refine tk_iast (k := 149) hx hb w rfl hi8 dX8_textured_91 (fun H locs w => ?_)
      refine lv_iinc (v := x2 + 1) (lv' := [(2, .int (x2 + 1)), (0, .ref (ad 132)), (1, .int x1)]) hx hb dX8_textured_92 hl (k := 2) rfl rfl (by decide) rfl (fun ls hl => ?_)
      refine lv_goto (tgt := 50) hx hb dX8_textured_95 (by decide) ?_
      exact h _ _ _ _ _ _ _ _ _ _ _ _ _ _ _ _ C w (lv_sub hl [1, 2, 0] rfl)
    · have h := h.2 c7
      refine lv_iconst (v := 1) hx hb dX8_textured_83 (by decide) ?_
      refine lv_iload_n hx hb dX8_textured_84 rfl (lv_at hl 2 rfl) ?_
      refine lv_ishl hx hb dX8_textured_85 ?_
      refine lv_goto (tgt := 90) hx hb dX8_textured_86 (by decide) ?_
      refine lv_ior hx hb dX8_textured_90 ?_
      obtain ⟨hi9, h⟩ := h
      refine tk_iast (k := 149) hx hb w rfl hi9 dX8_textured_91 (fun H locs w => ?_)
      refine lv_iinc (v := x2 + 1) (lv' := [(2, .int (x2 + 1)), (0, .ref (ad 132)), (1, .int x1)]) hx hb dX8_textured_92 hl (k := 2) rfl rfl (by decide) rfl (fun ls hl => ?_)
      refine lv_goto (tgt := 50) hx hb dX8_textured_95 (by decide) ?_
      exact h _ _ _ _ _ _ _ _ _ _ _ _ _ _ _ _ C w (lv_sub hl [1, 2, 0] rfl)
set_option maxHeartbeats 4000000 in
set_option maxRecDepth 100000 in
theorem b_X8_textured_7 (d : Nat) (x1 : Int32) (σ : tk_S) (Q : tk_S → Prop) (h : ((σ.1 132 0) ≤ x1 → ∀ z2 : Int32, z2 = σ.1 143 (Int32.toNatClampNeg 0) → (g_X8_textured (d + 1) 123 [(0, aN 132), (1, aI z2), (2, aI 1)] σ Q)) ∧ (¬ (σ.1 132 0) ≤ x1 → vp_in x1 12 ∧ (((σ.1 135 (Int32.toNatClampNeg x1)) = 1 → vp_in (σ.1 132 20) 12 ∧ (vp_in ((tk_up σ 146 (Int32.toNatClampNeg (σ.1 132 20)) x1).1 132 20) 12 ∧ (∀ σ7 : tk_S, σ7 = tk_up (tk_up σ 146 (Int32.toNatClampNeg (σ.1 132 20)) x1) 149 (Int32.toNatClampNeg ((tk_up σ 146 (Int32.toNatClampNeg (σ.1 132 20)) x1).1 132 20)) 0 → g_X8_textured (d + 1) 50 [(0, aN 132), (1, aI x1), (2, aI 0)] σ7 Q))) ∧ (¬ (σ.1 135 (Int32.toNatClampNeg x1)) = 1 → g_X8_textured (d + 1) 7 [(0, aN 132), (1, aI (x1 + 1))] σ Q)))) : g_X8_textured (d + 1) 7 [(0, aN 132), (1, aI x1)] σ Q := by
  intro p l e s m args below meth c D cy ad base H locs ls C w hl
  obtain ⟨hx, hb, hml, hown, hts, hr, hlk⟩ := id C
  have hl : lv_has ls 6 [(0, .ref (ad 132)), (1, .int x1)] := hl
  refine lv_iload_n hx hb dX8_textured_7 rfl (lv_at hl 1 rfl) ?_
  refine lv_aload_n hx hb dX8_textured_8 rfl (lv_at hl 0 rfl) ?_
  refine tk_get (k := 132) (v := .int (σ.1 132 0)) hx hb hts hown w rfl rfl inlX8 0 (by decide) mw_244 rfl dX8_textured_9 ?_
  refine lv_icmp_ge (tgt := 114) hx hb dX8_textured_12 (by decide) (fun c1 => ?_) (fun c1 => ?_)
  · have h := h.1 c1
    refine lv_aload_n hx hb dX8_textured_114 rfl (lv_at hl 0 rfl) ?_
    refine tk_get (k := 132) (v := .ref (ad 143)) hx hb hts hown w rfl rfl inlX8 13 (by decide) mw_112 rfl dX8_textured_115 ?_
    refine lv_iconst (v := 0) hx hb dX8_textured_118 (by decide) ?_
    refine tk_iald (k := 143) hx hb w rfl (by unfold vp_in; decide) dX8_textured_119 ?_
    refine lv_topi (fun z2 e_z2 => ?_)
    have h := h z2 e_z2
    refine lv_istore_n (lv' := [(1, .int z2), (0, .ref (ad 132))]) hx hb dX8_textured_120 rfl hl (by decide) rfl (fun ls hl => ?_)
    refine lv_iconst (v := 1) hx hb dX8_textured_121 (by decide) ?_
    refine lv_istore_n (lv' := [(2, .int 1), (1, .int z2), (0, .ref (ad 132))]) hx hb dX8_textured_122 rfl hl (by decide) rfl (fun ls hl => ?_)
    exact h _ _ _ _ _ _ _ _ _ _ _ _ _ _ _ _ C w (lv_sub hl [2, 1, 0] rfl)
  · have h := h.2 c1
    refine lv_aload_n hx hb dX8_textured_15 rfl (lv_at hl 0 rfl) ?_
    refine tk_get (k := 132) (v := .ref (ad 135)) hx hb hts hown w rfl rfl inlX8 5 (by decide) mw_103 rfl dX8_textured_16 ?_
    refine lv_iload_n hx hb dX8_textured_19 rfl (lv_at hl 1 rfl) ?_
    obtain ⟨hi3, h⟩ := h
    refine tk_iald (k := 135) hx hb w rfl hi3 dX8_textured_20 ?_
    refine lv_iconst (v := 1) hx hb dX8_textured_21 (by decide) ?_
    refine lv_icmp_eq (tgt := 28) hx hb dX8_textured_22 (by decide) (fun c4 => ?_) (fun c4 => ?_)
    · have h := h.1 c4
      refine lv_aload_n hx hb dX8_textured_28 rfl (lv_at hl 0 rfl) ?_
      refine tk_get (k := 132) (v := .ref (ad 146)) hx hb hts hown w rfl rfl inlX8 16 (by decide) mw_115 rfl dX8_textured_29 ?_
      refine lv_aload_n hx hb dX8_textured_32 rfl (lv_at hl 0 rfl) ?_
      refine tk_get (k := 132) (v := .int (σ.1 132 20)) hx hb hts hown w rfl rfl inlX8 20 (by decide) mw_639 rfl dX8_textured_33 ?_
      refine lv_iload_n hx hb dX8_textured_36 rfl (lv_at hl 1 rfl) ?_
      obtain ⟨hi5, h⟩ := h
      refine tk_iast (k := 146) hx hb w rfl hi5 dX8_textured_37 (fun H locs w => ?_)
      refine lv_aload_n hx hb dX8_textured_38 rfl (lv_at hl 0 rfl) ?_
      refine tk_get (k := 132) (v := .ref (ad 149)) hx hb hts hown w rfl rfl inlX8 19 (by decide) mw_118 rfl dX8_textured_39 ?_
      refine lv_aload_n hx hb dX8_textured_42 rfl (lv_at hl 0 rfl) ?_
      refine tk_get (k := 132) (v := .int ((tk_up σ 146 (Int32.toNatClampNeg (σ.1 132 20)) x1).1 132 20)) hx hb hts hown w rfl rfl inlX8 20 (by decide) mw_639 rfl dX8_textured_43 ?_
      refine lv_iconst (v := 0) hx hb dX8_textured_46 (by decide) ?_
      obtain ⟨hi6, h⟩ := h
      refine tk_iast (k := 149) hx hb w rfl hi6 dX8_textured_47 (fun H locs w => ?_)
      generalize e_σ7 : tk_up (tk_up σ 146 (Int32.toNatClampNeg (σ.1 132 20)) x1) 149 (Int32.toNatClampNeg ((tk_up σ 146 (Int32.toNatClampNeg (σ.1 132 20)) x1).1 132 20)) 0 = σ7 at w
      have h := h σ7 e_σ7.symm
      refine lv_iconst (v := 0) hx hb dX8_textured_48 (by decide) ?_
      refine lv_istore_n (lv' := [(2, .int 0), (0, .ref (ad 132)), (1, .int x1)]) hx hb dX8_textured_49 rfl hl (by decide) rfl (fun ls hl => ?_)
      exact h _ _ _ _ _ _ _ _ _ _ _ _ _ _ _ _ C w (lv_sub hl [1, 2, 0] rfl)
    · have h := h.2 c4
      refine lv_goto (tgt := 108) hx hb dX8_textured_25 (by decide) ?_
      refine lv_iinc (v := x1 + 1) (lv' := [(1, .int (x1 + 1)), (0, .ref (ad 132))]) hx hb dX8_textured_108 hl (k := 1) rfl rfl (by decide) rfl (fun ls hl => ?_)
      refine lv_goto (tgt := 7) hx hb dX8_textured_111 (by decide) ?_
      exact h _ _ _ _ _ _ _ _ _ _ _ _ _ _ _ _ C w (lv_sub hl [1, 0] rfl)
set_option maxHeartbeats 4000000 in
set_option maxRecDepth 100000 in
theorem b_X8_textured_0 (d : Nat)  (σ : tk_S) (Q : tk_S → Prop) (h : g_X8_textured (d + 1) 7 [(0, aN 132), (1, aI 0)] (tk_up σ 132 20 0) Q) : g_X8_textured (d + 1) 0 [(0, aN 132)] σ Q := by
  intro p l e s m args below meth c D cy ad base H locs ls C w hl
  obtain ⟨hx, hb, hml, hown, hts, hr, hlk⟩ := id C
  have hl : lv_has ls 6 [(0, .ref (ad 132))] := hl
  refine lv_aload_n hx hb dX8_textured_0 rfl (lv_at hl 0 rfl) ?_
  refine lv_iconst (v := 0) hx hb dX8_textured_1 (by decide) ?_
  refine tk_puti (k := 132) (ty := .int) hx hb hts hown w rfl rfl inlX8 tyX8 tyX8_ok nmX8 20 (by decide) mw_639 rfl rfl (by decide +kernel) rfl rfl dX8_textured_2 (fun H locs w => ?_)
  refine lv_iconst (v := 0) hx hb dX8_textured_5 (by decide) ?_
  refine lv_istore_n (lv' := [(1, .int 0), (0, .ref (ad 132))]) hx hb dX8_textured_6 rfl hl (by decide) rfl (fun ls hl => ?_)
  exact h _ _ _ _ _ _ _ _ _ _ _ _ _ _ _ _ C w (lv_sub hl [1, 0] rfl)
theorem e_X8_textured (d : Nat)  {σ : tk_S} {Q : tk_S → Prop} (h : g_X8_textured d 0 [(0, aN 132)] σ Q) : p_X8_textured d [aN 132] σ Q := tk_entry (by decide) rfl (fun _ => Nat.le_of_ble_eq_true rfl) (fun _ => rfl) h
abbrev g_X8_cost (d pc : Nat) (vals : List (Nat × tk_V)) (σ : tk_S) (Q : Int32 → tk_S → Prop) : Prop := tk_G RX8 cX8_cost 1 (some .int) d pc vals σ (tk_i Q)
set_option maxHeartbeats 4000000 in
set_option maxRecDepth 100000 in
theorem b_X8_cost_0 (d : Nat)  (σ : tk_S) (Q : Int32 → tk_S → Prop) (h : p_X8_textured d [aN 132] σ (fun σ2 => Q (σ2.1 132 21) σ2)) : g_X8_cost (d + 1) 0 [(0, aN 132)] σ Q := by
  intro p l e s m args below meth c D cy ad base H locs ls C w hl
  obtain ⟨hx, hb, hml, hown, hts, hr, hlk⟩ := id C
  have hl : lv_has ls 1 [(0, .ref (ad 132))] := hl
  refine lv_aload_n hx hb dX8_cost_0 rfl (lv_at hl 0 rfl) ?_
  refine tk_cV C w (k := 132) rfl rfl (as := []) (rest := []) mw_638 mw_5 mw_635 mw_636 mw_637 hd_X8_textured (by decide) hl.1 (Nat.le_of_ble_eq_true rfl) rfl dX8_cost_1 h (fun r1 σ2 H locs hq w => ?_)
  obtain ⟨rfl, h⟩ := hq
  refine W.eq (g2 := F0 m 4 ls []) rfl ?_
  refine lv_aload_n hx hb dX8_cost_4 rfl (lv_at hl 0 rfl) ?_
  refine tk_get (k := 132) (v := .int (σ2.1 132 21)) hx hb hts hown w rfl rfl inlX8 21 (by decide) mw_640 rfl dX8_cost_5 ?_
  exact tk_reti C w dX8_cost_8 h
theorem e_X8_cost (d : Nat)  {σ : tk_S} {Q : Int32 → tk_S → Prop} (h : g_X8_cost d 0 [(0, aN 132)] σ Q) : p_X8_cost d [aN 132] σ Q := tk_entry (by decide) rfl (fun _ => Nat.le_of_ble_eq_true rfl) (fun _ => rfl) h
abbrev g_X8_textureOf (d pc : Nat) (vals : List (Nat × tk_V)) (σ : tk_S) (Q : Int32 → tk_S → Prop) : Prop := tk_G RX8 cX8_textureOf 3 (some .int) d pc vals σ (tk_i Q)
set_option maxHeartbeats 4000000 in
set_option maxRecDepth 100000 in
theorem b_X8_textureOf_12 (d : Nat) (x1 : Int32) (x2 : Int32) (σ : tk_S) (Q : Int32 → tk_S → Prop) (h : ((σ.1 132 20) ≤ x2 → Q (-1) σ) ∧ (¬ (σ.1 132 20) ≤ x2 → vp_in x2 12 ∧ ((¬ (σ.1 146 (Int32.toNatClampNeg x2)) = x1 → g_X8_textureOf d 12 [(0, aN 132), (1, aI x1), (2, aI (x2 + 1))] σ Q) ∧ ((σ.1 146 (Int32.toNatClampNeg x2)) = x1 → vp_in x2 12 ∧ (Q (σ.1 148 (Int32.toNatClampNeg x2)) σ))))) : g_X8_textureOf d 12 [(0, aN 132), (1, aI x1), (2, aI x2)] σ Q := by
  intro p l e s m args below meth c D cy ad base H locs ls C w hl
  obtain ⟨hx, hb, hml, hown, hts, hr, hlk⟩ := id C
  have hl : lv_has ls 3 [(0, .ref (ad 132)), (1, .int x1), (2, .int x2)] := hl
  refine lv_iload_n hx hb dX8_textureOf_12 rfl (lv_at hl 2 rfl) ?_
  refine lv_aload_n hx hb dX8_textureOf_13 rfl (lv_at hl 0 rfl) ?_
  refine tk_get (k := 132) (v := .int (σ.1 132 20)) hx hb hts hown w rfl rfl inlX8 20 (by decide) mw_639 rfl dX8_textureOf_14 ?_
  refine lv_icmp_ge (tgt := 43) hx hb dX8_textureOf_17 (by decide) (fun c1 => ?_) (fun c1 => ?_)
  · have h := h.1 c1
    refine lv_iconst (v := (-1)) hx hb dX8_textureOf_43 (by decide) ?_
    exact tk_reti C w dX8_textureOf_44 h
  · have h := h.2 c1
    refine lv_aload_n hx hb dX8_textureOf_20 rfl (lv_at hl 0 rfl) ?_
    refine tk_get (k := 132) (v := .ref (ad 146)) hx hb hts hown w rfl rfl inlX8 16 (by decide) mw_115 rfl dX8_textureOf_21 ?_
    refine lv_iload_n hx hb dX8_textureOf_24 rfl (lv_at hl 2 rfl) ?_
    obtain ⟨hi2, h⟩ := h
    refine tk_iald (k := 146) hx hb w rfl hi2 dX8_textureOf_25 ?_
    refine lv_iload_n hx hb dX8_textureOf_26 rfl (lv_at hl 1 rfl) ?_
    refine lv_icmp_ne (tgt := 37) hx hb dX8_textureOf_27 (by decide) (fun c3 => ?_) (fun c3 => ?_)
    · have h := h.1 c3
      refine lv_iinc (v := x2 + 1) (lv' := [(2, .int (x2 + 1)), (0, .ref (ad 132)), (1, .int x1)]) hx hb dX8_textureOf_37 hl (k := 2) rfl rfl (by decide) rfl (fun ls hl => ?_)
      refine lv_goto (tgt := 12) hx hb dX8_textureOf_40 (by decide) ?_
      exact h _ _ _ _ _ _ _ _ _ _ _ _ _ _ _ _ C w (lv_sub hl [1, 2, 0] rfl)
    · have h := h.2 c3
      refine lv_aload_n hx hb dX8_textureOf_30 rfl (lv_at hl 0 rfl) ?_
      refine tk_get (k := 132) (v := .ref (ad 148)) hx hb hts hown w rfl rfl inlX8 18 (by decide) mw_117 rfl dX8_textureOf_31 ?_
      refine lv_iload_n hx hb dX8_textureOf_34 rfl (lv_at hl 2 rfl) ?_
      obtain ⟨hi4, h⟩ := h
      refine tk_iald (k := 148) hx hb w rfl hi4 dX8_textureOf_35 ?_
      exact tk_reti C w dX8_textureOf_36 h
set_option maxHeartbeats 4000000 in
set_option maxRecDepth 100000 in
theorem b_X8_textureOf_0 (d : Nat) (x1 : Int32) (σ : tk_S) (Q : Int32 → tk_S → Prop) (h : (¬ (σ.1 132 21) = (-1) → g_X8_textureOf d 12 [(0, aN 132), (1, aI x1), (2, aI 0)] σ Q) ∧ ((σ.1 132 21) = (-1) → Q (-1) σ)) : g_X8_textureOf d 0 [(0, aN 132), (1, aI x1)] σ Q := by
  intro p l e s m args below meth c D cy ad base H locs ls C w hl
  obtain ⟨hx, hb, hml, hown, hts, hr, hlk⟩ := id C
  have hl : lv_has ls 3 [(0, .ref (ad 132)), (1, .int x1)] := hl
  refine lv_aload_n hx hb dX8_textureOf_0 rfl (lv_at hl 0 rfl) ?_
  refine tk_get (k := 132) (v := .int (σ.1 132 21)) hx hb hts hown w rfl rfl inlX8 21 (by decide) mw_640 rfl dX8_textureOf_1 ?_
  refine lv_iconst (v := (-1)) hx hb dX8_textureOf_4 (by decide) ?_
  refine lv_icmp_ne (tgt := 10) hx hb dX8_textureOf_5 (by decide) (fun c1 => ?_) (fun c1 => ?_)
  · have h := h.1 c1
    refine lv_iconst (v := 0) hx hb dX8_textureOf_10 (by decide) ?_
    refine lv_istore_n (lv' := [(2, .int 0), (0, .ref (ad 132)), (1, .int x1)]) hx hb dX8_textureOf_11 rfl hl (by decide) rfl (fun ls hl => ?_)
    exact h _ _ _ _ _ _ _ _ _ _ _ _ _ _ _ _ C w (lv_sub hl [1, 2, 0] rfl)
  · have h := h.2 c1
    refine lv_iconst (v := (-1)) hx hb dX8_textureOf_8 (by decide) ?_
    exact tk_reti C w dX8_textureOf_9 h
theorem e_X8_textureOf (d : Nat) (x1 : Int32) {σ : tk_S} {Q : Int32 → tk_S → Prop} (h : g_X8_textureOf d 0 [(0, aN 132), (1, aI x1)] σ Q) : p_X8_textureOf d [aN 132, aI x1] σ Q := tk_entry (by decide) rfl (fun _ => Nat.le_of_ble_eq_true rfl) (fun _ => rfl) h
abbrev g_X8_texture (d pc : Nat) (vals : List (Nat × tk_V)) (σ : tk_S) (Q : Int32 → tk_S → Prop) : Prop := tk_G RX8 cX8_texture 2 (some .int) d pc vals σ (tk_i Q)
set_option maxHeartbeats 4000000 in
set_option maxRecDepth 100000 in
theorem b_X8_texture_0 (d : Nat) (x1 : Int32) (σ : tk_S) (Q : Int32 → tk_S → Prop) (h : p_X8_isShape d [aN 132, aI x1] σ (fun y3 σ2 => (y3 = 0 → Q (-1) σ2) ∧ (¬ y3 = 0 → vp_in x1 12 ∧ (((σ2.1 135 (Int32.toNatClampNeg x1)) = 1 → p_X8_textured d [aN 132] σ2 (fun σ8 => p_X8_textureOf d [aN 132, aI x1] σ8 (fun y11 σ10 => Q y11 σ10))) ∧ (¬ (σ2.1 135 (Int32.toNatClampNeg x1)) = 1 → Q (-1) σ2))))) : g_X8_texture (d + 1) 0 [(0, aN 132), (1, aI x1)] σ Q := by
  intro p l e s m args below meth c D cy ad base H locs ls C w hl
  obtain ⟨hx, hb, hml, hown, hts, hr, hlk⟩ := id C
  have hl : lv_has ls 2 [(0, .ref (ad 132)), (1, .int x1)] := hl
  refine lv_aload_n hx hb dX8_texture_0 rfl (lv_at hl 0 rfl) ?_
  refine lv_iload_n hx hb dX8_texture_1 rfl (lv_at hl 1 rfl) ?_
  refine tk_cV C w (k := 132) rfl rfl (as := [aI x1]) (rest := []) mw_314 mw_5 mw_311 mw_312 mw_313 hd_X8_isShape (by decide) hl.1 (Nat.le_of_ble_eq_true rfl) rfl dX8_texture_2 h (fun r1 σ2 H locs hq w => ?_)
  obtain ⟨y3, rfl, h⟩ := hq
  refine W.eq (g2 := F0 m 5 ls [.int y3]) rfl ?_
  refine lv_if_eq (tgt := 18) hx hb dX8_texture_5 (by decide) (fun c4 => ?_) (fun c4 => ?_)
  · have h := h.1 c4
    refine lv_iconst (v := (-1)) hx hb dX8_texture_18 (by decide) ?_
    exact tk_reti C w dX8_texture_19 h
  · have h := h.2 c4
    refine lv_aload_n hx hb dX8_texture_8 rfl (lv_at hl 0 rfl) ?_
    refine tk_get (k := 132) (v := .ref (ad 135)) hx hb hts hown w rfl rfl inlX8 5 (by decide) mw_103 rfl dX8_texture_9 ?_
    refine lv_iload_n hx hb dX8_texture_12 rfl (lv_at hl 1 rfl) ?_
    obtain ⟨hi5, h⟩ := h
    refine tk_iald (k := 135) hx hb w rfl hi5 dX8_texture_13 ?_
    refine lv_iconst (v := 1) hx hb dX8_texture_14 (by decide) ?_
    refine lv_icmp_eq (tgt := 20) hx hb dX8_texture_15 (by decide) (fun c6 => ?_) (fun c6 => ?_)
    · have h := h.1 c6
      refine lv_aload_n hx hb dX8_texture_20 rfl (lv_at hl 0 rfl) ?_
      refine tk_cV C w (k := 132) rfl rfl (as := []) (rest := []) mw_638 mw_5 mw_635 mw_636 mw_637 hd_X8_textured (by decide) hl.1 (Nat.le_of_ble_eq_true rfl) rfl dX8_texture_21 h (fun r7 σ8 H locs hq w => ?_)
      obtain ⟨rfl, h⟩ := hq
      refine W.eq (g2 := F0 m 24 ls []) rfl ?_
      refine lv_aload_n hx hb dX8_texture_24 rfl (lv_at hl 0 rfl) ?_
      refine lv_iload_n hx hb dX8_texture_25 rfl (lv_at hl 1 rfl) ?_
      refine tk_cV C w (k := 132) rfl rfl (as := [aI x1]) (rest := []) mw_644 mw_5 mw_641 mw_642 mw_643 hd_X8_textureOf (by decide) hl.1 (Nat.le_of_ble_eq_true rfl) rfl dX8_texture_26 h (fun r9 σ10 H locs hq w => ?_)
      obtain ⟨y11, rfl, h⟩ := hq
      refine W.eq (g2 := F0 m 29 ls [.int y11]) rfl ?_
      exact tk_reti C w dX8_texture_29 h
    · have h := h.2 c6
      refine lv_iconst (v := (-1)) hx hb dX8_texture_18 (by decide) ?_
      exact tk_reti C w dX8_texture_19 h
theorem e_X8_texture (d : Nat) (x1 : Int32) {σ : tk_S} {Q : Int32 → tk_S → Prop} (h : g_X8_texture d 0 [(0, aN 132), (1, aI x1)] σ Q) : p_X8_texture d [aN 132, aI x1] σ Q := tk_entry (by decide) rfl (fun _ => Nat.le_of_ble_eq_true rfl) (fun _ => rfl) h
abbrev g_X8_isUp (d pc : Nat) (vals : List (Nat × tk_V)) (σ : tk_S) (Q : Int32 → tk_S → Prop) : Prop := tk_G RX8 cX8_isUp 6 (some .boolean) d pc vals σ (tk_i Q)
set_option maxHeartbeats 4000000 in
set_option maxRecDepth 100000 in
theorem b_X8_isUp_0 (d : Nat) (x1 : Int32) (x2 : Int32) (x3 : Int32) (x4 : Int32) (σ : tk_S) (Q : Int32 → tk_S → Prop) (h : p_X8_has d [aN 132, aI x1, aI x2, aI x3] σ (fun y3 σ2 => (¬ y3 = 0 → ∀ z5 : Int32, z5 = 8 * x1 → (vp_in x1 12 ∧ ((¬ (σ2.1 135 (Int32.toNatClampNeg x1)) = 1 → Q 1 σ2) ∧ ((σ2.1 135 (Int32.toNatClampNeg x1)) = 1 → vp_in z5 96 ∧ ((x2 = (σ2.1 138 (Int32.toNatClampNeg z5)) → Q 1 σ2) ∧ (¬ x2 = (σ2.1 138 (Int32.toNatClampNeg z5)) → vp_in (z5 + 1) 96 ∧ ((x2 = (σ2.1 138 (Int32.toNatClampNeg (z5 + 1))) → Q 1 σ2) ∧ (¬ x2 = (σ2.1 138 (Int32.toNatClampNeg (z5 + 1))) → vp_in z5 96 ∧ ((x3 = (σ2.1 139 (Int32.toNatClampNeg z5)) → Q 1 σ2) ∧ (¬ x3 = (σ2.1 139 (Int32.toNatClampNeg z5)) → vp_in (z5 + 1) 96 ∧ ((¬ x3 = (σ2.1 139 (Int32.toNatClampNeg (z5 + 1))) → (x4 = 0 → Q 0 σ2) ∧ (x4 = 1 → (¬ ((x2 + x3) - (x2 + x3) / 2 * 2) = 0 → Q 0 σ2) ∧ (((x2 + x3) - (x2 + x3) / 2 * 2) = 0 → Q 1 σ2)) ∧ (x4 = 2 → (¬ (x2 - x2 / 2 * 2) = 0 → Q 0 σ2) ∧ ((x2 - x2 / 2 * 2) = 0 → Q 1 σ2)) ∧ (x4 = 3 → (¬ (x3 - x3 / 2 * 2) = 0 → Q 0 σ2) ∧ ((x3 - x3 / 2 * 2) = 0 → Q 1 σ2)) ∧ (¬ x4 = 0 → ¬ x4 = 1 → ¬ x4 = 2 → ¬ x4 = 3 → Q 1 σ2)) ∧ (x3 = (σ2.1 139 (Int32.toNatClampNeg (z5 + 1))) → Q 1 σ2)))))))))))) ∧ (y3 = 0 → Q 0 σ2))) : g_X8_isUp (d + 1) 0 [(0, aN 132), (1, aI x1), (2, aI x2), (3, aI x3), (4, aI x4)] σ Q := by
  intro p l e s m args below meth c D cy ad base H locs ls C w hl
  obtain ⟨hx, hb, hml, hown, hts, hr, hlk⟩ := id C
  have hl : lv_has ls 6 [(0, .ref (ad 132)), (1, .int x1), (2, .int x2), (3, .int x3), (4, .int x4)] := hl
  refine lv_aload_n hx hb dX8_isUp_0 rfl (lv_at hl 0 rfl) ?_
  refine lv_iload_n hx hb dX8_isUp_1 rfl (lv_at hl 1 rfl) ?_
  refine lv_iload_n hx hb dX8_isUp_2 rfl (lv_at hl 2 rfl) ?_
  refine lv_iload_n hx hb dX8_isUp_3 rfl (lv_at hl 3 rfl) ?_
  refine tk_cV C w (k := 132) rfl rfl (as := [aI x1, aI x2, aI x3]) (rest := []) mw_388 mw_5 mw_385 mw_386 mw_387 hd_X8_has (by decide) hl.1 (Nat.le_of_ble_eq_true rfl) rfl dX8_isUp_4 h (fun r1 σ2 H locs hq w => ?_)
  obtain ⟨y3, rfl, h⟩ := hq
  refine W.eq (g2 := F0 m 7 ls [.int y3]) rfl ?_
  refine lv_if_ne (tgt := 12) hx hb dX8_isUp_7 (by decide) (fun c4 => ?_) (fun c4 => ?_)
  · have h := h.1 c4
    refine lv_bipush (v := 8) hx hb dX8_isUp_12 (by decide) ?_
    refine lv_iload_n hx hb dX8_isUp_14 rfl (lv_at hl 1 rfl) ?_
    refine lv_imul hx hb dX8_isUp_15 ?_
    refine lv_topi (fun z5 e_z5 => ?_)
    have h := h z5 e_z5
    refine lv_istore (lv' := [(5, .int z5), (0, .ref (ad 132)), (1, .int x1), (2, .int x2), (3, .int x3), (4, .int x4)]) hx hb dX8_isUp_16 hl (by decide) rfl (fun ls hl => ?_)
    refine lv_aload_n hx hb dX8_isUp_18 rfl (lv_at hl 1 rfl) ?_
    refine tk_get (k := 132) (v := .ref (ad 135)) hx hb hts hown w rfl rfl inlX8 5 (by decide) mw_103 rfl dX8_isUp_19 ?_
    refine lv_iload_n hx hb dX8_isUp_22 rfl (lv_at hl 2 rfl) ?_
    obtain ⟨hi6, h⟩ := h
    refine tk_iald (k := 135) hx hb w rfl hi6 dX8_isUp_23 ?_
    refine lv_iconst (v := 1) hx hb dX8_isUp_24 (by decide) ?_
    refine lv_icmp_ne (tgt := 76) hx hb dX8_isUp_25 (by decide) (fun c7 => ?_) (fun c7 => ?_)
    · have h := h.1 c7
      refine lv_iconst (v := 1) hx hb dX8_isUp_76 (by decide) ?_
      exact tk_retz C w dX8_isUp_77 rfl h
    · have h := h.2 c7
      refine lv_iload_n hx hb dX8_isUp_28 rfl (lv_at hl 3 rfl) ?_
      refine lv_aload_n hx hb dX8_isUp_29 rfl (lv_at hl 1 rfl) ?_
      refine tk_get (k := 132) (v := .ref (ad 138)) hx hb hts hown w rfl rfl inlX8 8 (by decide) mw_106 rfl dX8_isUp_30 ?_
      refine lv_iload hx hb dX8_isUp_33 (lv_at hl 0 rfl) ?_
      obtain ⟨hi8, h⟩ := h
      refine tk_iald (k := 138) hx hb w rfl hi8 dX8_isUp_35 ?_
      refine lv_icmp_eq (tgt := 76) hx hb dX8_isUp_36 (by decide) (fun c9 => ?_) (fun c9 => ?_)
      · have h := h.1 c9
        refine lv_iconst (v := 1) hx hb dX8_isUp_76 (by decide) ?_
        exact tk_retz C w dX8_isUp_77 rfl h
      · have h := h.2 c9
        refine lv_iload_n hx hb dX8_isUp_39 rfl (lv_at hl 3 rfl) ?_
        refine lv_aload_n hx hb dX8_isUp_40 rfl (lv_at hl 1 rfl) ?_
        refine tk_get (k := 132) (v := .ref (ad 138)) hx hb hts hown w rfl rfl inlX8 8 (by decide) mw_106 rfl dX8_isUp_41 ?_
        refine lv_iload hx hb dX8_isUp_44 (lv_at hl 0 rfl) ?_
        refine lv_iconst (v := 1) hx hb dX8_isUp_46 (by decide) ?_
        refine lv_iadd hx hb dX8_isUp_47 ?_
        obtain ⟨hi10, h⟩ := h
        refine tk_iald (k := 138) hx hb w rfl hi10 dX8_isUp_48 ?_
        refine lv_icmp_eq (tgt := 76) hx hb dX8_isUp_49 (by decide) (fun c11 => ?_) (fun c11 => ?_)
        · have h := h.1 c11
          refine lv_iconst (v := 1) hx hb dX8_isUp_76 (by decide) ?_
          exact tk_retz C w dX8_isUp_77 rfl h
        · have h := h.2 c11
          refine lv_iload_n hx hb dX8_isUp_52 rfl (lv_at hl 4 rfl) ?_
          refine lv_aload_n hx hb dX8_isUp_53 rfl (lv_at hl 1 rfl) ?_
          refine tk_get (k := 132) (v := .ref (ad 139)) hx hb hts hown w rfl rfl inlX8 9 (by decide) mw_107 rfl dX8_isUp_54 ?_
          refine lv_iload hx hb dX8_isUp_57 (lv_at hl 0 rfl) ?_
          obtain ⟨hi12, h⟩ := h
          refine tk_iald (k := 139) hx hb w rfl hi12 dX8_isUp_59 ?_
          refine lv_icmp_eq (tgt := 76) hx hb dX8_isUp_60 (by decide) (fun c13 => ?_) (fun c13 => ?_)
          · have h := h.1 c13
            refine lv_iconst (v := 1) hx hb dX8_isUp_76 (by decide) ?_
            exact tk_retz C w dX8_isUp_77 rfl h
          · have h := h.2 c13
            refine lv_iload_n hx hb dX8_isUp_63 rfl (lv_at hl 4 rfl) ?_
            refine lv_aload_n hx hb dX8_isUp_64 rfl (lv_at hl 1 rfl) ?_
            refine tk_get (k := 132) (v := .ref (ad 139)) hx hb hts hown w rfl rfl inlX8 9 (by decide) mw_107 rfl dX8_isUp_65 ?_
            refine lv_iload hx hb dX8_isUp_68 (lv_at hl 0 rfl) ?_
            refine lv_iconst (v := 1) hx hb dX8_isUp_70 (by decide) ?_
            refine lv_iadd hx hb dX8_isUp_71 ?_
            obtain ⟨hi14, h⟩ := h
            refine tk_iald (k := 139) hx hb w rfl hi14 dX8_isUp_72 ?_
            refine lv_icmp_ne (tgt := 78) hx hb dX8_isUp_73 (by decide) (fun c15 => ?_) (fun c15 => ?_)
            · have h := h.1 c15
              refine lv_iload hx hb dX8_isUp_78 (lv_at hl 5 rfl) ?_
              by_cases c16 : x4 = 0
              · have h := h.1 c16
                refine lv_tableIn (off := 32) (tgt := 112) hx hb dX8_isUp_80 (by rw [c16]; decide) (by rw [c16]; decide) (by rw [c16]; rfl) (by decide) ?_
                refine lv_iconst (v := 0) hx hb dX8_isUp_112 (by decide) ?_
                exact tk_retz C w dX8_isUp_113 rfl h
              · have h := h.2
                by_cases c17 : x4 = 1
                · have h := h.1 c17
                  refine lv_tableIn (off := 34) (tgt := 114) hx hb dX8_isUp_80 (by rw [c17]; decide) (by rw [c17]; decide) (by rw [c17]; rfl) (by decide) ?_
                  refine lv_iload_n hx hb dX8_isUp_114 rfl (lv_at hl 3 rfl) ?_
                  refine lv_iload_n hx hb dX8_isUp_115 rfl (lv_at hl 4 rfl) ?_
                  refine lv_iadd hx hb dX8_isUp_116 ?_
                  refine lv_iconst (v := 2) hx hb dX8_isUp_117 (by decide) ?_
                  refine lv_irem hx hb dX8_isUp_118 (by decide) ?_
                  refine lv_if_ne (tgt := 126) hx hb dX8_isUp_119 (by decide) (fun c18 => ?_) (fun c18 => ?_)
                  · have h := h.1 c18
                    refine lv_iconst (v := 0) hx hb dX8_isUp_126 (by decide) ?_
                    exact tk_retz C w dX8_isUp_127 rfl h
                  · have h := h.2 c18
                    refine lv_iconst (v := 1) hx hb dX8_isUp_122 (by decide) ?_
                    refine lv_goto (tgt := 127) hx hb dX8_isUp_123 (by decide) ?_
                    exact tk_retz C w dX8_isUp_127 rfl h
                · have h := h.2
                  by_cases c19 : x4 = 2
                  · have h := h.1 c19
                    refine lv_tableIn (off := 48) (tgt := 128) hx hb dX8_isUp_80 (by rw [c19]; decide) (by rw [c19]; decide) (by rw [c19]; rfl) (by decide) ?_
                    refine lv_iload_n hx hb dX8_isUp_128 rfl (lv_at hl 3 rfl) ?_
                    refine lv_iconst (v := 2) hx hb dX8_isUp_129 (by decide) ?_
                    refine lv_irem hx hb dX8_isUp_130 (by decide) ?_
                    refine lv_if_ne (tgt := 138) hx hb dX8_isUp_131 (by decide) (fun c20 => ?_) (fun c20 => ?_)
                    · have h := h.1 c20
                      refine lv_iconst (v := 0) hx hb dX8_isUp_138 (by decide) ?_
                      exact tk_retz C w dX8_isUp_139 rfl h
                    · have h := h.2 c20
                      refine lv_iconst (v := 1) hx hb dX8_isUp_134 (by decide) ?_
                      refine lv_goto (tgt := 139) hx hb dX8_isUp_135 (by decide) ?_
                      exact tk_retz C w dX8_isUp_139 rfl h
                  · have h := h.2
                    by_cases c21 : x4 = 3
                    · have h := h.1 c21
                      refine lv_tableIn (off := 60) (tgt := 140) hx hb dX8_isUp_80 (by rw [c21]; decide) (by rw [c21]; decide) (by rw [c21]; rfl) (by decide) ?_
                      refine lv_iload_n hx hb dX8_isUp_140 rfl (lv_at hl 4 rfl) ?_
                      refine lv_iconst (v := 2) hx hb dX8_isUp_141 (by decide) ?_
                      refine lv_irem hx hb dX8_isUp_142 (by decide) ?_
                      refine lv_if_ne (tgt := 150) hx hb dX8_isUp_143 (by decide) (fun c22 => ?_) (fun c22 => ?_)
                      · have h := h.1 c22
                        refine lv_iconst (v := 0) hx hb dX8_isUp_150 (by decide) ?_
                        exact tk_retz C w dX8_isUp_151 rfl h
                      · have h := h.2 c22
                        refine lv_iconst (v := 1) hx hb dX8_isUp_146 (by decide) ?_
                        refine lv_goto (tgt := 151) hx hb dX8_isUp_147 (by decide) ?_
                        exact tk_retz C w dX8_isUp_151 rfl h
                    · have h := h.2
                      have h := h c16
                      have h := h c17
                      have h := h c19
                      have h := h c21
                      refine lv_tableOut (tgt := 152) hx hb dX8_isUp_80 (by have := lv_neT c16 (a := 0) rfl; have := lv_neT c17 (a := 1) rfl; have := lv_neT c19 (a := 2) rfl; have := lv_neT c21 (a := 3) rfl; omega) (by decide) ?_
                      refine lv_iconst (v := 1) hx hb dX8_isUp_152 (by decide) ?_
                      exact tk_retz C w dX8_isUp_153 rfl h
            · have h := h.2 c15
              refine lv_iconst (v := 1) hx hb dX8_isUp_76 (by decide) ?_
              exact tk_retz C w dX8_isUp_77 rfl h
  · have h := h.2 c4
    refine lv_iconst (v := 0) hx hb dX8_isUp_10 (by decide) ?_
    exact tk_retz C w dX8_isUp_11 rfl h
theorem e_X8_isUp (d : Nat) (x1 : Int32) (x2 : Int32) (x3 : Int32) (x4 : Int32) {σ : tk_S} {Q : Int32 → tk_S → Prop} (h : g_X8_isUp d 0 [(0, aN 132), (1, aI x1), (2, aI x2), (3, aI x3), (4, aI x4)] σ Q) : p_X8_isUp d [aN 132, aI x1, aI x2, aI x3, aI x4] σ Q := tk_entry (by decide) rfl (fun _ => Nat.le_of_ble_eq_true rfl) (fun _ => rfl) h
abbrev g_X8_print (d pc : Nat) (vals : List (Nat × tk_V)) (σ : tk_S) (Q : Int32 → tk_S → Prop) : Prop := tk_G RX8 cX8_print 5 (some .int) d pc vals σ (tk_i Q)
set_option maxHeartbeats 4000000 in
set_option maxRecDepth 100000 in
theorem b_X8_print_139 (d : Nat) (x2 : Int32) (x3 : Int32) (σ : tk_S) (Q : Int32 → tk_S → Prop) (h : (576 ≤ x3 → Q x2 σ) ∧ (¬ 576 ≤ x3 → vp_in x3 576 ∧ (((σ.1 150 (Int32.toNatClampNeg x3)) = 0 → g_X8_print (d + 1) 139 [(0, aN 132), (2, aI (x2 + 0)), (3, aI (x3 + 1))] σ Q) ∧ (¬ (σ.1 150 (Int32.toNatClampNeg x3)) = 0 → g_X8_print (d + 1) 139 [(0, aN 132), (2, aI (x2 + 1)), (3, aI (x3 + 1))] σ Q)))) : g_X8_print (d + 1) 139 [(0, aN 132), (2, aI x2), (3, aI x3)] σ Q := by
  intro p l e s m args below meth c D cy ad base H locs ls C w hl
  obtain ⟨hx, hb, hml, hown, hts, hr, hlk⟩ := id C
  have hl : lv_has ls 5 [(0, .ref (ad 132)), (2, .int x2), (3, .int x3)] := hl
  refine lv_iload_n hx hb dX8_print_139 rfl (lv_at hl 2 rfl) ?_
  refine lv_sipush (v := 576) hx hb dX8_print_140 (by decide) ?_
  refine lv_icmp_ge (tgt := 169) hx hb dX8_print_143 (by decide) (fun c1 => ?_) (fun c1 => ?_)
  · have h := h.1 c1
    refine lv_iload_n hx hb dX8_print_169 rfl (lv_at hl 1 rfl) ?_
    exact tk_reti C w dX8_print_170 h
  · have h := h.2 c1
    refine lv_iload_n hx hb dX8_print_146 rfl (lv_at hl 1 rfl) ?_
    refine lv_aload_n hx hb dX8_print_147 rfl (lv_at hl 0 rfl) ?_
    refine tk_get (k := 132) (v := .ref (ad 150)) hx hb hts hown w rfl rfl inlX8 22 (by decide) mw_119 rfl dX8_print_148 ?_
    refine lv_iload_n hx hb dX8_print_151 rfl (lv_at hl 2 rfl) ?_
    obtain ⟨hi2, h⟩ := h
    refine tk_zald (k := 150) hx hb w rfl hi2 dX8_print_152 ?_
    refine lv_if_eq (tgt := 160) hx hb dX8_print_153 (by decide) (fun c3 => ?_) (fun c3 => ?_)
    · have h := h.1 c3
      refine lv_iconst (v := 0) hx hb dX8_print_160 (by decide) ?_
      refine lv_iadd hx hb dX8_print_161 ?_
      refine lv_istore_n (lv' := [(2, .int (x2 + 0)), (0, .ref (ad 132)), (3, .int x3)]) hx hb dX8_print_162 rfl hl (by decide) rfl (fun ls hl => ?_)
      refine lv_iinc (v := x3 + 1) (lv' := [(3, .int (x3 + 1)), (2, .int (x2 + 0)), (0, .ref (ad 132))]) hx hb dX8_print_163 hl (k := 2) rfl rfl (by decide) rfl (fun ls hl => ?_)
      refine lv_goto (tgt := 139) hx hb dX8_print_166 (by decide) ?_
      exact h _ _ _ _ _ _ _ _ _ _ _ _ _ _ _ _ C w (lv_sub hl [2, 1, 0] rfl)
    · have h := h.2 c3
      refine lv_iconst (v := 1) hx hb dX8_print_156 (by decide) ?_
      refine lv_goto (tgt := 161) hx hb dX8_print_157 (by decide) ?_
      refine lv_iadd hx hb dX8_print_161 ?_
      refine lv_istore_n (lv' := [(2, .int (x2 + 1)), (0, .ref (ad 132)), (3, .int x3)]) hx hb dX8_print_162 rfl hl (by decide) rfl (fun ls hl => ?_)
      refine lv_iinc (v := x3 + 1) (lv' := [(3, .int (x3 + 1)), (2, .int (x2 + 1)), (0, .ref (ad 132))]) hx hb dX8_print_163 hl (k := 2) rfl rfl (by decide) rfl (fun ls hl => ?_)
      refine lv_goto (tgt := 139) hx hb dX8_print_166 (by decide) ?_
      exact h _ _ _ _ _ _ _ _ _ _ _ _ _ _ _ _ C w (lv_sub hl [2, 1, 0] rfl)
set_option maxHeartbeats 4000000 in
set_option maxRecDepth 100000 in
theorem b_X8_print_74 (d : Nat) (x1 : Int32) (x2 : Int32) (x3 : Int32) (x4 : Int32) (σ : tk_S) (Q : Int32 → tk_S → Prop) (h : (576 ≤ x4 → g_X8_print (d + 1) 46 [(0, aN 132), (1, aI x1), (2, aI (x2 + 1))] σ Q) ∧ (¬ 576 ≤ x4 → vp_in x4 576 ∧ ((¬ (σ.1 150 (Int32.toNatClampNeg x4)) = 0 → vp_in x4 576 ∧ (g_X8_print (d + 1) 74 [(0, aN 132), (1, aI x1), (2, aI x2), (3, aI x3), (4, aI (x4 + 1))] (tk_up σ 150 (Int32.toNatClampNeg x4) 1) Q)) ∧ ((σ.1 150 (Int32.toNatClampNeg x4)) = 0 → p_X8_isUp d [aN 132, aI x2, aI (x4 - x4 / 24 * 24), aI (x4 / 24), aI x3] σ (fun y7 σ6 => (y7 = 0 → vp_in x4 576 ∧ (g_X8_print (d + 1) 74 [(0, aN 132), (1, aI x1), (2, aI x2), (3, aI x3), (4, aI (x4 + 1))] (tk_up σ6 150 (Int32.toNatClampNeg x4) 0) Q)) ∧ (¬ y7 = 0 → vp_in x4 576 ∧ (g_X8_print (d + 1) 74 [(0, aN 132), (1, aI x1), (2, aI x2), (3, aI x3), (4, aI (x4 + 1))] (tk_up σ6 150 (Int32.toNatClampNeg x4) 1) Q))))))) : g_X8_print (d + 1) 74 [(0, aN 132), (1, aI x1), (2, aI x2), (3, aI x3), (4, aI x4)] σ Q := by
  intro p l e s m args below meth c D cy ad base H locs ls C w hl
  obtain ⟨hx, hb, hml, hown, hts, hr, hlk⟩ := id C
  have hl : lv_has ls 5 [(0, .ref (ad 132)), (1, .int x1), (2, .int x2), (3, .int x3), (4, .int x4)] := hl
  refine lv_iload hx hb dX8_print_74 (lv_at hl 4 rfl) ?_
  refine lv_sipush (v := 576) hx hb dX8_print_76 (by decide) ?_
  refine lv_icmp_ge (tgt := 129) hx hb dX8_print_79 (by decide) (fun c1 => ?_) (fun c1 => ?_)
  · have h := h.1 c1
    refine lv_iinc (v := x2 + 1) (lv' := [(2, .int (x2 + 1)), (0, .ref (ad 132)), (1, .int x1), (3, .int x3), (4, .int x4)]) hx hb dX8_print_129 hl (k := 2) rfl rfl (by decide) rfl (fun ls hl => ?_)
    refine lv_goto (tgt := 46) hx hb dX8_print_132 (by decide) ?_
    exact h _ _ _ _ _ _ _ _ _ _ _ _ _ _ _ _ C w (lv_sub hl [1, 2, 0] rfl)
  · have h := h.2 c1
    refine lv_aload_n hx hb dX8_print_82 rfl (lv_at hl 0 rfl) ?_
    refine tk_get (k := 132) (v := .ref (ad 150)) hx hb hts hown w rfl rfl inlX8 22 (by decide) mw_119 rfl dX8_print_83 ?_
    refine lv_iload hx hb dX8_print_86 (lv_at hl 4 rfl) ?_
    refine lv_aload_n hx hb dX8_print_88 rfl (lv_at hl 0 rfl) ?_
    refine tk_get (k := 132) (v := .ref (ad 150)) hx hb hts hown w rfl rfl inlX8 22 (by decide) mw_119 rfl dX8_print_89 ?_
    refine lv_iload hx hb dX8_print_92 (lv_at hl 4 rfl) ?_
    obtain ⟨hi2, h⟩ := h
    refine tk_zald (k := 150) hx hb w rfl hi2 dX8_print_94 ?_
    refine lv_if_ne (tgt := 117) hx hb dX8_print_95 (by decide) (fun c3 => ?_) (fun c3 => ?_)
    · have h := h.1 c3
      refine lv_iconst (v := 1) hx hb dX8_print_117 (by decide) ?_
      refine lv_goto (tgt := 122) hx hb dX8_print_118 (by decide) ?_
      obtain ⟨hi4, h⟩ := h
      refine tk_zast (k := 150) hx hb w rfl hi4 rfl dX8_print_122 (fun H locs w => ?_)
      refine lv_iinc (v := x4 + 1) (lv' := [(4, .int (x4 + 1)), (0, .ref (ad 132)), (1, .int x1), (2, .int x2), (3, .int x3)]) hx hb dX8_print_123 hl (k := 4) rfl rfl (by decide) rfl (fun ls hl => ?_)
      refine lv_goto (tgt := 74) hx hb dX8_print_126 (by decide) ?_
      exact h _ _ _ _ _ _ _ _ _ _ _ _ _ _ _ _ C w (lv_sub hl [1, 2, 3, 4, 0] rfl)
    · have h := h.2 c3
      refine lv_aload_n hx hb dX8_print_98 rfl (lv_at hl 0 rfl) ?_
      refine lv_iload_n hx hb dX8_print_99 rfl (lv_at hl 2 rfl) ?_
      refine lv_iload hx hb dX8_print_100 (lv_at hl 4 rfl) ?_
      refine lv_bipush (v := 24) hx hb dX8_print_102 (by decide) ?_
      refine lv_irem hx hb dX8_print_104 (by decide) ?_
      refine lv_iload hx hb dX8_print_105 (lv_at hl 4 rfl) ?_
      refine lv_bipush (v := 24) hx hb dX8_print_107 (by decide) ?_
      refine lv_idiv hx hb dX8_print_109 (by decide) ?_
      refine lv_iload_n hx hb dX8_print_110 rfl (lv_at hl 3 rfl) ?_
      refine tk_cV C w (k := 132) rfl rfl (as := [aI x2, aI (x4 - x4 / 24 * 24), aI (x4 / 24), aI x3]) (rest := [.int x4, .ref (ad 150)]) mw_724 mw_5 mw_721 mw_722 mw_723 hd_X8_isUp (by decide) hl.1 (Nat.le_of_ble_eq_true rfl) rfl dX8_print_111 h (fun r5 σ6 H locs hq w => ?_)
      obtain ⟨y7, rfl, h⟩ := hq
      refine W.eq (g2 := F0 m 114 ls [.int y7, .int x4, .ref (ad 150)]) rfl ?_
      refine lv_if_eq (tgt := 121) hx hb dX8_print_114 (by decide) (fun c8 => ?_) (fun c8 => ?_)
      · have h := h.1 c8
        refine lv_iconst (v := 0) hx hb dX8_print_121 (by decide) ?_
        obtain ⟨hi9, h⟩ := h
        refine tk_zast (k := 150) hx hb w rfl hi9 rfl dX8_print_122 (fun H locs w => ?_)
        refine lv_iinc (v := x4 + 1) (lv' := [(4, .int (x4 + 1)), (0, .ref (ad 132)), (1, .int x1), (2, .int x2), (3, .int x3)]) hx hb dX8_print_123 hl (k := 4) rfl rfl (by decide) rfl (fun ls hl => ?_)
        refine lv_goto (tgt := 74) hx hb dX8_print_126 (by decide) ?_
        exact h _ _ _ _ _ _ _ _ _ _ _ _ _ _ _ _ C w (lv_sub hl [1, 2, 3, 4, 0] rfl)
      · have h := h.2 c8
        refine lv_iconst (v := 1) hx hb dX8_print_117 (by decide) ?_
        refine lv_goto (tgt := 122) hx hb dX8_print_118 (by decide) ?_
        obtain ⟨hi10, h⟩ := h
        refine tk_zast (k := 150) hx hb w rfl hi10 rfl dX8_print_122 (fun H locs w => ?_)
        refine lv_iinc (v := x4 + 1) (lv' := [(4, .int (x4 + 1)), (0, .ref (ad 132)), (1, .int x1), (2, .int x2), (3, .int x3)]) hx hb dX8_print_123 hl (k := 4) rfl rfl (by decide) rfl (fun ls hl => ?_)
        refine lv_goto (tgt := 74) hx hb dX8_print_126 (by decide) ?_
        exact h _ _ _ _ _ _ _ _ _ _ _ _ _ _ _ _ C w (lv_sub hl [1, 2, 3, 4, 0] rfl)
set_option maxHeartbeats 4000000 in
set_option maxRecDepth 100000 in
theorem b_X8_print_46 (d : Nat) (x1 : Int32) (x2 : Int32) (σ : tk_S) (Q : Int32 → tk_S → Prop) (h : ((σ.1 132 0) ≤ x2 → g_X8_print (d + 1) 139 [(0, aN 132), (2, aI 0), (3, aI 0)] σ Q) ∧ (¬ (σ.1 132 0) ≤ x2 → (¬ ((x1 >>> (x2 &&& 31)) &&& 1) = 0 → p_X8_textureOf d [aN 132, aI x2] σ (fun y5 σ4 => g_X8_print (d + 1) 74 [(0, aN 132), (1, aI x1), (2, aI x2), (3, aI y5), (4, aI 0)] σ4 Q)) ∧ (((x1 >>> (x2 &&& 31)) &&& 1) = 0 → g_X8_print (d + 1) 46 [(0, aN 132), (1, aI x1), (2, aI (x2 + 1))] σ Q))) : g_X8_print (d + 1) 46 [(0, aN 132), (1, aI x1), (2, aI x2)] σ Q := by
  intro p l e s m args below meth c D cy ad base H locs ls C w hl
  obtain ⟨hx, hb, hml, hown, hts, hr, hlk⟩ := id C
  have hl : lv_has ls 5 [(0, .ref (ad 132)), (1, .int x1), (2, .int x2)] := hl
  refine lv_iload_n hx hb dX8_print_46 rfl (lv_at hl 2 rfl) ?_
  refine lv_aload_n hx hb dX8_print_47 rfl (lv_at hl 0 rfl) ?_
  refine tk_get (k := 132) (v := .int (σ.1 132 0)) hx hb hts hown w rfl rfl inlX8 0 (by decide) mw_244 rfl dX8_print_48 ?_
  refine lv_icmp_ge (tgt := 135) hx hb dX8_print_51 (by decide) (fun c1 => ?_) (fun c1 => ?_)
  · have h := h.1 c1
    refine lv_iconst (v := 0) hx hb dX8_print_135 (by decide) ?_
    refine lv_istore_n (lv' := [(2, .int 0), (0, .ref (ad 132)), (1, .int x1)]) hx hb dX8_print_136 rfl hl (by decide) rfl (fun ls hl => ?_)
    refine lv_iconst (v := 0) hx hb dX8_print_137 (by decide) ?_
    refine lv_istore_n (lv' := [(3, .int 0), (2, .int 0), (0, .ref (ad 132)), (1, .int x1)]) hx hb dX8_print_138 rfl hl (by decide) rfl (fun ls hl => ?_)
    exact h _ _ _ _ _ _ _ _ _ _ _ _ _ _ _ _ C w (lv_sub hl [2, 1, 0] rfl)
  · have h := h.2 c1
    refine lv_iload_n hx hb dX8_print_54 rfl (lv_at hl 1 rfl) ?_
    refine lv_iload_n hx hb dX8_print_55 rfl (lv_at hl 2 rfl) ?_
    refine lv_ishr hx hb dX8_print_56 ?_
    refine lv_iconst (v := 1) hx hb dX8_print_57 (by decide) ?_
    refine lv_iand hx hb dX8_print_58 ?_
    refine lv_if_ne (tgt := 65) hx hb dX8_print_59 (by decide) (fun c2 => ?_) (fun c2 => ?_)
    · have h := h.1 c2
      refine lv_aload_n hx hb dX8_print_65 rfl (lv_at hl 0 rfl) ?_
      refine lv_iload_n hx hb dX8_print_66 rfl (lv_at hl 2 rfl) ?_
      refine tk_cV C w (k := 132) rfl rfl (as := [aI x2]) (rest := []) mw_644 mw_5 mw_641 mw_642 mw_643 hd_X8_textureOf (by decide) hl.1 (Nat.le_of_ble_eq_true rfl) rfl dX8_print_67 h (fun r3 σ4 H locs hq w => ?_)
      obtain ⟨y5, rfl, h⟩ := hq
      refine W.eq (g2 := F0 m 70 ls [.int y5]) rfl ?_
      refine lv_istore_n (lv' := [(3, .int y5), (0, .ref (ad 132)), (1, .int x1), (2, .int x2)]) hx hb dX8_print_70 rfl hl (by decide) rfl (fun ls hl => ?_)
      refine lv_iconst (v := 0) hx hb dX8_print_71 (by decide) ?_
      refine lv_istore (lv' := [(4, .int 0), (3, .int y5), (0, .ref (ad 132)), (1, .int x1), (2, .int x2)]) hx hb dX8_print_72 hl (by decide) rfl (fun ls hl => ?_)
      exact h _ _ _ _ _ _ _ _ _ _ _ _ _ _ _ _ C w (lv_sub hl [2, 3, 4, 1, 0] rfl)
    · have h := h.2 c2
      refine lv_goto (tgt := 129) hx hb dX8_print_62 (by decide) ?_
      refine lv_iinc (v := x2 + 1) (lv' := [(2, .int (x2 + 1)), (0, .ref (ad 132)), (1, .int x1)]) hx hb dX8_print_129 hl (k := 2) rfl rfl (by decide) rfl (fun ls hl => ?_)
      refine lv_goto (tgt := 46) hx hb dX8_print_132 (by decide) ?_
      exact h _ _ _ _ _ _ _ _ _ _ _ _ _ _ _ _ C w (lv_sub hl [1, 2, 0] rfl)
set_option maxHeartbeats 4000000 in
set_option maxRecDepth 100000 in
theorem b_X8_print_20 (d : Nat) (x1 : Int32) (x2 : Int32) (σ : tk_S) (Q : Int32 → tk_S → Prop) (h : (576 ≤ x2 → p_X8_textured d [aN 132] σ (fun σ3 => g_X8_print (d + 1) 46 [(0, aN 132), (1, aI x1), (2, aI 0)] σ3 Q)) ∧ (¬ 576 ≤ x2 → vp_in x2 576 ∧ (g_X8_print (d + 1) 20 [(0, aN 132), (1, aI x1), (2, aI (x2 + 1))] (tk_up σ 150 (Int32.toNatClampNeg x2) 0) Q))) : g_X8_print (d + 1) 20 [(0, aN 132), (1, aI x1), (2, aI x2)] σ Q := by
  intro p l e s m args below meth c D cy ad base H locs ls C w hl
  obtain ⟨hx, hb, hml, hown, hts, hr, hlk⟩ := id C
  have hl : lv_has ls 5 [(0, .ref (ad 132)), (1, .int x1), (2, .int x2)] := hl
  refine lv_iload_n hx hb dX8_print_20 rfl (lv_at hl 2 rfl) ?_
  refine lv_sipush (v := 576) hx hb dX8_print_21 (by decide) ?_
  refine lv_icmp_ge (tgt := 40) hx hb dX8_print_24 (by decide) (fun c1 => ?_) (fun c1 => ?_)
  · have h := h.1 c1
    refine lv_aload_n hx hb dX8_print_40 rfl (lv_at hl 0 rfl) ?_
    refine tk_cV C w (k := 132) rfl rfl (as := []) (rest := []) mw_638 mw_5 mw_635 mw_636 mw_637 hd_X8_textured (by decide) hl.1 (Nat.le_of_ble_eq_true rfl) rfl dX8_print_41 h (fun r2 σ3 H locs hq w => ?_)
    obtain ⟨rfl, h⟩ := hq
    refine W.eq (g2 := F0 m 44 ls []) rfl ?_
    refine lv_iconst (v := 0) hx hb dX8_print_44 (by decide) ?_
    refine lv_istore_n (lv' := [(2, .int 0), (0, .ref (ad 132)), (1, .int x1)]) hx hb dX8_print_45 rfl hl (by decide) rfl (fun ls hl => ?_)
    exact h _ _ _ _ _ _ _ _ _ _ _ _ _ _ _ _ C w (lv_sub hl [1, 2, 0] rfl)
  · have h := h.2 c1
    refine lv_aload_n hx hb dX8_print_27 rfl (lv_at hl 0 rfl) ?_
    refine tk_get (k := 132) (v := .ref (ad 150)) hx hb hts hown w rfl rfl inlX8 22 (by decide) mw_119 rfl dX8_print_28 ?_
    refine lv_iload_n hx hb dX8_print_31 rfl (lv_at hl 2 rfl) ?_
    refine lv_iconst (v := 0) hx hb dX8_print_32 (by decide) ?_
    obtain ⟨hi4, h⟩ := h
    refine tk_zast (k := 150) hx hb w rfl hi4 rfl dX8_print_33 (fun H locs w => ?_)
    refine lv_iinc (v := x2 + 1) (lv' := [(2, .int (x2 + 1)), (0, .ref (ad 132)), (1, .int x1)]) hx hb dX8_print_34 hl (k := 2) rfl rfl (by decide) rfl (fun ls hl => ?_)
    refine lv_goto (tgt := 20) hx hb dX8_print_37 (by decide) ?_
    exact h _ _ _ _ _ _ _ _ _ _ _ _ _ _ _ _ C w (lv_sub hl [1, 2, 0] rfl)
set_option maxHeartbeats 4000000 in
set_option maxRecDepth 100000 in
theorem b_X8_print_0 (d : Nat) (x1 : Int32) (σ : tk_S) (Q : Int32 → tk_S → Prop) (h : p_X8_isIn d [aI x1, aI 0, aI (((1 : Int32) <<< ((σ.1 132 0) &&& 31)) - 1)] σ (fun y3 σ2 => (¬ y3 = 0 → g_X8_print (d + 1) 20 [(0, aN 132), (1, aI x1), (2, aI 0)] σ2 Q) ∧ (y3 = 0 → Q (-1) σ2))) : g_X8_print (d + 1) 0 [(0, aN 132), (1, aI x1)] σ Q := by
  intro p l e s m args below meth c D cy ad base H locs ls C w hl
  obtain ⟨hx, hb, hml, hown, hts, hr, hlk⟩ := id C
  have hl : lv_has ls 5 [(0, .ref (ad 132)), (1, .int x1)] := hl
  refine lv_iload_n hx hb dX8_print_0 rfl (lv_at hl 1 rfl) ?_
  refine lv_iconst (v := 0) hx hb dX8_print_1 (by decide) ?_
  refine lv_iconst (v := 1) hx hb dX8_print_2 (by decide) ?_
  refine lv_aload_n hx hb dX8_print_3 rfl (lv_at hl 0 rfl) ?_
  refine tk_get (k := 132) (v := .int (σ.1 132 0)) hx hb hts hown w rfl rfl inlX8 0 (by decide) mw_244 rfl dX8_print_4 ?_
  refine lv_ishl hx hb dX8_print_7 ?_
  refine lv_iconst (v := 1) hx hb dX8_print_8 (by decide) ?_
  refine lv_isub hx hb dX8_print_9 ?_
  refine tk_cS C w (as := [aI x1, aI 0, aI (((1 : Int32) <<< ((σ.1 132 0) &&& 31)) - 1)]) (rest := []) mw_140 mw_5 mw_138 mw_139 hd_X8_isIn (by decide) hl.1 (Nat.le_of_ble_eq_true rfl) rfl dX8_print_10 h (fun r1 σ2 H locs hq w => ?_)
  obtain ⟨y3, rfl, h⟩ := hq
  refine W.eq (g2 := F0 m 13 ls [.int y3]) rfl ?_
  refine lv_if_ne (tgt := 18) hx hb dX8_print_13 (by decide) (fun c4 => ?_) (fun c4 => ?_)
  · have h := h.1 c4
    refine lv_iconst (v := 0) hx hb dX8_print_18 (by decide) ?_
    refine lv_istore_n (lv' := [(2, .int 0), (0, .ref (ad 132)), (1, .int x1)]) hx hb dX8_print_19 rfl hl (by decide) rfl (fun ls hl => ?_)
    exact h _ _ _ _ _ _ _ _ _ _ _ _ _ _ _ _ C w (lv_sub hl [1, 2, 0] rfl)
  · have h := h.2 c4
    refine lv_iconst (v := (-1)) hx hb dX8_print_16 (by decide) ?_
    exact tk_reti C w dX8_print_17 h
theorem e_X8_print (d : Nat) (x1 : Int32) {σ : tk_S} {Q : Int32 → tk_S → Prop} (h : g_X8_print d 0 [(0, aN 132), (1, aI x1)] σ Q) : p_X8_print d [aN 132, aI x1] σ Q := tk_entry (by decide) rfl (fun _ => Nat.le_of_ble_eq_true rfl) (fun _ => rfl) h
abbrev g_X8_up (d pc : Nat) (vals : List (Nat × tk_V)) (σ : tk_S) (Q : Int32 → tk_S → Prop) : Prop := tk_G RX8 cX8_up 3 (some .int) d pc vals σ (tk_i Q)
set_option maxHeartbeats 4000000 in
set_option maxRecDepth 100000 in
theorem b_X8_up_0 (d : Nat) (x1 : Int32) (x2 : Int32) (σ : tk_S) (Q : Int32 → tk_S → Prop) (h : p_X8_isPin d [aI x1, aI x2] σ (fun y3 σ2 => (¬ y3 = 0 → vp_in ((24 * x2) + x1) 576 ∧ (((σ2.1 150 (Int32.toNatClampNeg ((24 * x2) + x1))) = 0 → Q 0 σ2) ∧ (¬ (σ2.1 150 (Int32.toNatClampNeg ((24 * x2) + x1))) = 0 → Q 1 σ2))) ∧ (y3 = 0 → Q (-1) σ2))) : g_X8_up (d + 1) 0 [(0, aN 132), (1, aI x1), (2, aI x2)] σ Q := by
  intro p l e s m args below meth c D cy ad base H locs ls C w hl
  obtain ⟨hx, hb, hml, hown, hts, hr, hlk⟩ := id C
  have hl : lv_has ls 3 [(0, .ref (ad 132)), (1, .int x1), (2, .int x2)] := hl
  refine lv_iload_n hx hb dX8_up_0 rfl (lv_at hl 1 rfl) ?_
  refine lv_iload_n hx hb dX8_up_1 rfl (lv_at hl 2 rfl) ?_
  refine tk_cS C w (as := [aI x1, aI x2]) (rest := []) mw_137 mw_5 mw_135 mw_136 hd_X8_isPin (by decide) hl.1 (Nat.le_of_ble_eq_true rfl) rfl dX8_up_2 h (fun r1 σ2 H locs hq w => ?_)
  obtain ⟨y3, rfl, h⟩ := hq
  refine W.eq (g2 := F0 m 5 ls [.int y3]) rfl ?_
  refine lv_if_ne (tgt := 12) hx hb dX8_up_5 (by decide) (fun c4 => ?_) (fun c4 => ?_)
  · have h := h.1 c4
    refine lv_aload_n hx hb dX8_up_12 rfl (lv_at hl 0 rfl) ?_
    refine tk_get (k := 132) (v := .ref (ad 150)) hx hb hts hown w rfl rfl inlX8 22 (by decide) mw_119 rfl dX8_up_13 ?_
    refine lv_bipush (v := 24) hx hb dX8_up_16 (by decide) ?_
    refine lv_iload_n hx hb dX8_up_18 rfl (lv_at hl 2 rfl) ?_
    refine lv_imul hx hb dX8_up_19 ?_
    refine lv_iload_n hx hb dX8_up_20 rfl (lv_at hl 1 rfl) ?_
    refine lv_iadd hx hb dX8_up_21 ?_
    obtain ⟨hi5, h⟩ := h
    refine tk_zald (k := 150) hx hb w rfl hi5 dX8_up_22 ?_
    refine lv_if_eq (tgt := 30) hx hb dX8_up_23 (by decide) (fun c6 => ?_) (fun c6 => ?_)
    · have h := h.1 c6
      refine lv_iconst (v := 0) hx hb dX8_up_30 (by decide) ?_
      exact tk_reti C w dX8_up_31 h
    · have h := h.2 c6
      refine lv_iconst (v := 1) hx hb dX8_up_26 (by decide) ?_
      refine lv_goto (tgt := 31) hx hb dX8_up_27 (by decide) ?_
      exact tk_reti C w dX8_up_31 h
  · have h := h.2 c4
    refine lv_iconst (v := (-1)) hx hb dX8_up_8 (by decide) ?_
    refine lv_goto (tgt := 31) hx hb dX8_up_9 (by decide) ?_
    exact tk_reti C w dX8_up_31 h
theorem e_X8_up (d : Nat) (x1 : Int32) (x2 : Int32) {σ : tk_S} {Q : Int32 → tk_S → Prop} (h : g_X8_up d 0 [(0, aN 132), (1, aI x1), (2, aI x2)] σ Q) : p_X8_up d [aN 132, aI x1, aI x2] σ Q := tk_entry (by decide) rfl (fun _ => Nat.le_of_ble_eq_true rfl) (fun _ => rfl) h
abbrev g_X8_feels (d pc : Nat) (vals : List (Nat × tk_V)) (σ : tk_S) (Q : tk_S → Prop) : Prop := tk_G RX8 cX8_feels 7 none d pc vals σ (tk_v Q)
set_option maxHeartbeats 4000000 in
set_option maxRecDepth 100000 in
theorem b_X8_feels_87 (d : Nat) (x1 : Int32) (x2 : Int32) (x3 : Int32) (x4 : Int32) (σ : tk_S) (Q : tk_S → Prop) (h : (9 ≤ x4 → g_X8_feels (d + 1) 79 [(0, aN 132), (1, aI x1), (2, aI x2), (3, aI (x3 + 1))] σ Q) ∧ (¬ 9 ≤ x4 → vp_in x3 576 ∧ (∀ z3 : Int32, z3 = (((σ.1 152 (Int32.toNatClampNeg x3)) - (σ.1 152 (Int32.toNatClampNeg x3)) / 24 * 24) + (x4 - x4 / 3 * 3)) - 1 → (vp_in x3 576 ∧ (∀ z5 : Int32, z5 = (((σ.1 152 (Int32.toNatClampNeg x3)) / 24) + (x4 / 3)) - 1 → (p_X8_isPin d [aI z3, aI z5] σ (fun y8 σ7 => (y8 = 0 → g_X8_feels (d + 1) 87 [(0, aN 132), (1, aI x1), (2, aI x2), (3, aI x3), (4, aI (x4 + 1))] σ7 Q) ∧ (¬ y8 = 0 → vp_in ((24 * z5) + z3) 576 ∧ (((σ7.1 150 (Int32.toNatClampNeg ((24 * z5) + z3))) = 0 → g_X8_feels (d + 1) 87 [(0, aN 132), (1, aI x1), (2, aI x2), (3, aI x3), (4, aI (x4 + 1))] σ7 Q) ∧ (¬ (σ7.1 150 (Int32.toNatClampNeg ((24 * z5) + z3))) = 0 → vp_in ((24 * z5) + z3) 576 ∧ (((σ7.1 151 (Int32.toNatClampNeg ((24 * z5) + z3))) = (-1) → vp_in ((24 * z5) + z3) 576 ∧ (vp_in x2 576 ∧ (∀ σ16 : tk_S, σ16 = tk_up (tk_up σ7 151 (Int32.toNatClampNeg ((24 * z5) + z3)) (σ7.1 132 25)) 152 (Int32.toNatClampNeg x2) ((24 * z5) + z3) → g_X8_feels (d + 1) 87 [(0, aN 132), (1, aI x1), (2, aI (x2 + 1)), (3, aI x3), (4, aI (x4 + 1))] σ16 Q))) ∧ (¬ (σ7.1 151 (Int32.toNatClampNeg ((24 * z5) + z3))) = (-1) → g_X8_feels (d + 1) 87 [(0, aN 132), (1, aI x1), (2, aI x2), (3, aI x3), (4, aI (x4 + 1))] σ7 Q)))))))))))) : g_X8_feels (d + 1) 87 [(0, aN 132), (1, aI x1), (2, aI x2), (3, aI x3), (4, aI x4)] σ Q := by
  intro p l e s m args below meth c D cy ad base H locs ls C w hl
  obtain ⟨hx, hb, hml, hown, hts, hr, hlk⟩ := id C
  have hl : lv_has ls 7 [(0, .ref (ad 132)), (1, .int x1), (2, .int x2), (3, .int x3), (4, .int x4)] := hl
  refine lv_iload hx hb dX8_feels_87 (lv_at hl 4 rfl) ?_
  refine lv_bipush (v := 9) hx hb dX8_feels_89 (by decide) ?_
  refine lv_icmp_ge (tgt := 216) hx hb dX8_feels_91 (by decide) (fun c1 => ?_) (fun c1 => ?_)
  · have h := h.1 c1
    refine lv_iinc (v := x3 + 1) (lv' := [(3, .int (x3 + 1)), (0, .ref (ad 132)), (1, .int x1), (2, .int x2), (4, .int x4)]) hx hb dX8_feels_216 hl (k := 3) rfl rfl (by decide) rfl (fun ls hl => ?_)
    refine lv_goto (tgt := 79) hx hb dX8_feels_219 (by decide) ?_
    exact h _ _ _ _ _ _ _ _ _ _ _ _ _ _ _ _ C w (lv_sub hl [1, 2, 3, 0] rfl)
  · have h := h.2 c1
    refine lv_aload_n hx hb dX8_feels_94 rfl (lv_at hl 0 rfl) ?_
    refine tk_get (k := 132) (v := .ref (ad 152)) hx hb hts hown w rfl rfl inlX8 24 (by decide) mw_121 rfl dX8_feels_95 ?_
    refine lv_iload_n hx hb dX8_feels_98 rfl (lv_at hl 3 rfl) ?_
    obtain ⟨hi2, h⟩ := h
    refine tk_iald (k := 152) hx hb w rfl hi2 dX8_feels_99 ?_
    refine lv_bipush (v := 24) hx hb dX8_feels_100 (by decide) ?_
    refine lv_irem hx hb dX8_feels_102 (by decide) ?_
    refine lv_iload hx hb dX8_feels_103 (lv_at hl 4 rfl) ?_
    refine lv_iconst (v := 3) hx hb dX8_feels_105 (by decide) ?_
    refine lv_irem hx hb dX8_feels_106 (by decide) ?_
    refine lv_iadd hx hb dX8_feels_107 ?_
    refine lv_iconst (v := 1) hx hb dX8_feels_108 (by decide) ?_
    refine lv_isub hx hb dX8_feels_109 ?_
    refine lv_topi (fun z3 e_z3 => ?_)
    have h := h z3 e_z3
    refine lv_istore (lv' := [(5, .int z3), (0, .ref (ad 132)), (1, .int x1), (2, .int x2), (3, .int x3), (4, .int x4)]) hx hb dX8_feels_110 hl (by decide) rfl (fun ls hl => ?_)
    refine lv_aload_n hx hb dX8_feels_112 rfl (lv_at hl 1 rfl) ?_
    refine tk_get (k := 132) (v := .ref (ad 152)) hx hb hts hown w rfl rfl inlX8 24 (by decide) mw_121 rfl dX8_feels_113 ?_
    refine lv_iload_n hx hb dX8_feels_116 rfl (lv_at hl 4 rfl) ?_
    obtain ⟨hi4, h⟩ := h
    refine tk_iald (k := 152) hx hb w rfl hi4 dX8_feels_117 ?_
    refine lv_bipush (v := 24) hx hb dX8_feels_118 (by decide) ?_
    refine lv_idiv hx hb dX8_feels_120 (by decide) ?_
    refine lv_iload hx hb dX8_feels_121 (lv_at hl 5 rfl) ?_
    refine lv_iconst (v := 3) hx hb dX8_feels_123 (by decide) ?_
    refine lv_idiv hx hb dX8_feels_124 (by decide) ?_
    refine lv_iadd hx hb dX8_feels_125 ?_
    refine lv_iconst (v := 1) hx hb dX8_feels_126 (by decide) ?_
    refine lv_isub hx hb dX8_feels_127 ?_
    refine lv_topi (fun z5 e_z5 => ?_)
    have h := h z5 e_z5
    refine lv_istore (lv' := [(6, .int z5), (5, .int z3), (0, .ref (ad 132)), (1, .int x1), (2, .int x2), (3, .int x3), (4, .int x4)]) hx hb dX8_feels_128 hl (by decide) rfl (fun ls hl => ?_)
    refine lv_iload hx hb dX8_feels_130 (lv_at hl 1 rfl) ?_
    refine lv_iload hx hb dX8_feels_132 (lv_at hl 0 rfl) ?_
    refine tk_cS C w (as := [aI z3, aI z5]) (rest := []) mw_137 mw_5 mw_135 mw_136 hd_X8_isPin (by decide) hl.1 (Nat.le_of_ble_eq_true rfl) rfl dX8_feels_134 h (fun r6 σ7 H locs hq w => ?_)
    obtain ⟨y8, rfl, h⟩ := hq
    refine W.eq (g2 := F0 m 137 ls [.int y8]) rfl ?_
    refine lv_if_eq (tgt := 210) hx hb dX8_feels_137 (by decide) (fun c9 => ?_) (fun c9 => ?_)
    · have h := h.1 c9
      refine lv_iinc (v := x4 + 1) (lv' := [(4, .int (x4 + 1)), (6, .int z5), (5, .int z3), (0, .ref (ad 132)), (1, .int x1), (2, .int x2), (3, .int x3)]) hx hb dX8_feels_210 hl (k := 6) rfl rfl (by decide) rfl (fun ls hl => ?_)
      refine lv_goto (tgt := 87) hx hb dX8_feels_213 (by decide) ?_
      exact h _ _ _ _ _ _ _ _ _ _ _ _ _ _ _ _ C w (lv_sub hl [3, 4, 5, 6, 0] rfl)
    · have h := h.2 c9
      refine lv_aload_n hx hb dX8_feels_140 rfl (lv_at hl 2 rfl) ?_
      refine tk_get (k := 132) (v := .ref (ad 150)) hx hb hts hown w rfl rfl inlX8 22 (by decide) mw_119 rfl dX8_feels_141 ?_
      refine lv_bipush (v := 24) hx hb dX8_feels_144 (by decide) ?_
      refine lv_iload hx hb dX8_feels_146 (lv_at hl 0 rfl) ?_
      refine lv_imul hx hb dX8_feels_148 ?_
      refine lv_iload hx hb dX8_feels_149 (lv_at hl 1 rfl) ?_
      refine lv_iadd hx hb dX8_feels_151 ?_
      obtain ⟨hi10, h⟩ := h
      refine tk_zald (k := 150) hx hb w rfl hi10 dX8_feels_152 ?_
      refine lv_if_eq (tgt := 210) hx hb dX8_feels_153 (by decide) (fun c11 => ?_) (fun c11 => ?_)
      · have h := h.1 c11
        refine lv_iinc (v := x4 + 1) (lv' := [(4, .int (x4 + 1)), (6, .int z5), (5, .int z3), (0, .ref (ad 132)), (1, .int x1), (2, .int x2), (3, .int x3)]) hx hb dX8_feels_210 hl (k := 6) rfl rfl (by decide) rfl (fun ls hl => ?_)
        refine lv_goto (tgt := 87) hx hb dX8_feels_213 (by decide) ?_
        exact h _ _ _ _ _ _ _ _ _ _ _ _ _ _ _ _ C w (lv_sub hl [3, 4, 5, 6, 0] rfl)
      · have h := h.2 c11
        refine lv_aload_n hx hb dX8_feels_156 rfl (lv_at hl 2 rfl) ?_
        refine tk_get (k := 132) (v := .ref (ad 151)) hx hb hts hown w rfl rfl inlX8 23 (by decide) mw_120 rfl dX8_feels_157 ?_
        refine lv_bipush (v := 24) hx hb dX8_feels_160 (by decide) ?_
        refine lv_iload hx hb dX8_feels_162 (lv_at hl 0 rfl) ?_
        refine lv_imul hx hb dX8_feels_164 ?_
        refine lv_iload hx hb dX8_feels_165 (lv_at hl 1 rfl) ?_
        refine lv_iadd hx hb dX8_feels_167 ?_
        obtain ⟨hi12, h⟩ := h
        refine tk_iald (k := 151) hx hb w rfl hi12 dX8_feels_168 ?_
        refine lv_iconst (v := (-1)) hx hb dX8_feels_169 (by decide) ?_
        refine lv_icmp_eq (tgt := 176) hx hb dX8_feels_170 (by decide) (fun c13 => ?_) (fun c13 => ?_)
        · have h := h.1 c13
          refine lv_aload_n hx hb dX8_feels_176 rfl (lv_at hl 2 rfl) ?_
          refine tk_get (k := 132) (v := .ref (ad 151)) hx hb hts hown w rfl rfl inlX8 23 (by decide) mw_120 rfl dX8_feels_177 ?_
          refine lv_bipush (v := 24) hx hb dX8_feels_180 (by decide) ?_
          refine lv_iload hx hb dX8_feels_182 (lv_at hl 0 rfl) ?_
          refine lv_imul hx hb dX8_feels_184 ?_
          refine lv_iload hx hb dX8_feels_185 (lv_at hl 1 rfl) ?_
          refine lv_iadd hx hb dX8_feels_187 ?_
          refine lv_aload_n hx hb dX8_feels_188 rfl (lv_at hl 2 rfl) ?_
          refine tk_get (k := 132) (v := .int (σ7.1 132 25)) hx hb hts hown w rfl rfl inlX8 25 (by decide) mw_742 rfl dX8_feels_189 ?_
          obtain ⟨hi14, h⟩ := h
          refine tk_iast (k := 151) hx hb w rfl hi14 dX8_feels_192 (fun H locs w => ?_)
          refine lv_aload_n hx hb dX8_feels_193 rfl (lv_at hl 2 rfl) ?_
          refine tk_get (k := 132) (v := .ref (ad 152)) hx hb hts hown w rfl rfl inlX8 24 (by decide) mw_121 rfl dX8_feels_194 ?_
          refine lv_iload_n hx hb dX8_feels_197 rfl (lv_at hl 4 rfl) ?_
          refine lv_bipush (v := 24) hx hb dX8_feels_198 (by decide) ?_
          refine lv_iload hx hb dX8_feels_200 (lv_at hl 0 rfl) ?_
          refine lv_imul hx hb dX8_feels_202 ?_
          refine lv_iload hx hb dX8_feels_203 (lv_at hl 1 rfl) ?_
          refine lv_iadd hx hb dX8_feels_205 ?_
          obtain ⟨hi15, h⟩ := h
          refine tk_iast (k := 152) hx hb w rfl hi15 dX8_feels_206 (fun H locs w => ?_)
          generalize e_σ16 : tk_up (tk_up σ7 151 (Int32.toNatClampNeg ((24 * z5) + z3)) (σ7.1 132 25)) 152 (Int32.toNatClampNeg x2) ((24 * z5) + z3) = σ16 at w
          have h := h σ16 e_σ16.symm
          refine lv_iinc (v := x2 + 1) (lv' := [(2, .int (x2 + 1)), (6, .int z5), (5, .int z3), (0, .ref (ad 132)), (1, .int x1), (3, .int x3), (4, .int x4)]) hx hb dX8_feels_207 hl (k := 4) rfl rfl (by decide) rfl (fun ls hl => ?_)
          refine lv_iinc (v := x4 + 1) (lv' := [(4, .int (x4 + 1)), (2, .int (x2 + 1)), (6, .int z5), (5, .int z3), (0, .ref (ad 132)), (1, .int x1), (3, .int x3)]) hx hb dX8_feels_210 hl (k := 6) rfl rfl (by decide) rfl (fun ls hl => ?_)
          refine lv_goto (tgt := 87) hx hb dX8_feels_213 (by decide) ?_
          exact h _ _ _ _ _ _ _ _ _ _ _ _ _ _ _ _ C w (lv_sub hl [4, 5, 1, 6, 0] rfl)
        · have h := h.2 c13
          refine lv_goto (tgt := 210) hx hb dX8_feels_173 (by decide) ?_
          refine lv_iinc (v := x4 + 1) (lv' := [(4, .int (x4 + 1)), (6, .int z5), (5, .int z3), (0, .ref (ad 132)), (1, .int x1), (2, .int x2), (3, .int x3)]) hx hb dX8_feels_210 hl (k := 6) rfl rfl (by decide) rfl (fun ls hl => ?_)
          refine lv_goto (tgt := 87) hx hb dX8_feels_213 (by decide) ?_
          exact h _ _ _ _ _ _ _ _ _ _ _ _ _ _ _ _ C w (lv_sub hl [3, 4, 5, 6, 0] rfl)
set_option maxHeartbeats 4000000 in
set_option maxRecDepth 100000 in
theorem b_X8_feels_79 (d : Nat) (x1 : Int32) (x2 : Int32) (x3 : Int32) (σ : tk_S) (Q : tk_S → Prop) (h : (x2 ≤ x3 → g_X8_feels (d + 1) 29 [(0, aN 132), (1, aI (x1 + 1))] (tk_up σ 132 25 ((σ.1 132 25) + 1)) Q) ∧ (¬ x2 ≤ x3 → g_X8_feels (d + 1) 87 [(0, aN 132), (1, aI x1), (2, aI x2), (3, aI x3), (4, aI 0)] σ Q)) : g_X8_feels (d + 1) 79 [(0, aN 132), (1, aI x1), (2, aI x2), (3, aI x3)] σ Q := by
  intro p l e s m args below meth c D cy ad base H locs ls C w hl
  obtain ⟨hx, hb, hml, hown, hts, hr, hlk⟩ := id C
  have hl : lv_has ls 7 [(0, .ref (ad 132)), (1, .int x1), (2, .int x2), (3, .int x3)] := hl
  refine lv_iload_n hx hb dX8_feels_79 rfl (lv_at hl 3 rfl) ?_
  refine lv_iload_n hx hb dX8_feels_80 rfl (lv_at hl 2 rfl) ?_
  refine lv_icmp_ge (tgt := 222) hx hb dX8_feels_81 (by decide) (fun c1 => ?_) (fun c1 => ?_)
  · have h := h.1 c1
    refine lv_aload_n hx hb dX8_feels_222 rfl (lv_at hl 0 rfl) ?_
    refine lv_dup hx hb dX8_feels_223 rfl ?_
    refine tk_get (k := 132) (v := .int (σ.1 132 25)) hx hb hts hown w rfl rfl inlX8 25 (by decide) mw_742 rfl dX8_feels_224 ?_
    refine lv_iconst (v := 1) hx hb dX8_feels_227 (by decide) ?_
    refine lv_iadd hx hb dX8_feels_228 ?_
    refine tk_puti (k := 132) (ty := .int) hx hb hts hown w rfl rfl inlX8 tyX8 tyX8_ok nmX8 25 (by decide) mw_742 rfl rfl (by decide +kernel) rfl rfl dX8_feels_229 (fun H locs w => ?_)
    refine lv_iinc (v := x1 + 1) (lv' := [(1, .int (x1 + 1)), (0, .ref (ad 132)), (2, .int x2), (3, .int x3)]) hx hb dX8_feels_232 hl (k := 1) rfl rfl (by decide) rfl (fun ls hl => ?_)
    refine lv_goto (tgt := 29) hx hb dX8_feels_235 (by decide) ?_
    exact h _ _ _ _ _ _ _ _ _ _ _ _ _ _ _ _ C w (lv_sub hl [1, 0] rfl)
  · have h := h.2 c1
    refine lv_iconst (v := 0) hx hb dX8_feels_84 (by decide) ?_
    refine lv_istore (lv' := [(4, .int 0), (0, .ref (ad 132)), (1, .int x1), (2, .int x2), (3, .int x3)]) hx hb dX8_feels_85 hl (by decide) rfl (fun ls hl => ?_)
    exact h _ _ _ _ _ _ _ _ _ _ _ _ _ _ _ _ C w (lv_sub hl [1, 2, 3, 4, 0] rfl)
set_option maxHeartbeats 4000000 in
set_option maxRecDepth 100000 in
theorem b_X8_feels_29 (d : Nat) (x1 : Int32) (σ : tk_S) (Q : tk_S → Prop) (h : (576 ≤ x1 → Q σ) ∧ (¬ 576 ≤ x1 → vp_in x1 576 ∧ (((σ.1 150 (Int32.toNatClampNeg x1)) = 0 → g_X8_feels (d + 1) 29 [(0, aN 132), (1, aI (x1 + 1))] σ Q) ∧ (¬ (σ.1 150 (Int32.toNatClampNeg x1)) = 0 → vp_in x1 576 ∧ (((σ.1 151 (Int32.toNatClampNeg x1)) = (-1) → vp_in x1 576 ∧ (∀ σ7 : tk_S, σ7 = tk_up (tk_up σ 152 (Int32.toNatClampNeg 0) x1) 151 (Int32.toNatClampNeg x1) ((tk_up σ 152 (Int32.toNatClampNeg 0) x1).1 132 25) → g_X8_feels (d + 1) 79 [(0, aN 132), (1, aI x1), (2, aI 1), (3, aI 0)] σ7 Q)) ∧ (¬ (σ.1 151 (Int32.toNatClampNeg x1)) = (-1) → g_X8_feels (d + 1) 29 [(0, aN 132), (1, aI (x1 + 1))] σ Q)))))) : g_X8_feels (d + 1) 29 [(0, aN 132), (1, aI x1)] σ Q := by
  intro p l e s m args below meth c D cy ad base H locs ls C w hl
  obtain ⟨hx, hb, hml, hown, hts, hr, hlk⟩ := id C
  have hl : lv_has ls 7 [(0, .ref (ad 132)), (1, .int x1)] := hl
  refine lv_iload_n hx hb dX8_feels_29 rfl (lv_at hl 1 rfl) ?_
  refine lv_sipush (v := 576) hx hb dX8_feels_30 (by decide) ?_
  refine lv_icmp_ge (tgt := 238) hx hb dX8_feels_33 (by decide) (fun c1 => ?_) (fun c1 => ?_)
  · have h := h.1 c1
    exact tk_retv C w dX8_feels_238 h
  · have h := h.2 c1
    refine lv_aload_n hx hb dX8_feels_36 rfl (lv_at hl 0 rfl) ?_
    refine tk_get (k := 132) (v := .ref (ad 150)) hx hb hts hown w rfl rfl inlX8 22 (by decide) mw_119 rfl dX8_feels_37 ?_
    refine lv_iload_n hx hb dX8_feels_40 rfl (lv_at hl 1 rfl) ?_
    obtain ⟨hi2, h⟩ := h
    refine tk_zald (k := 150) hx hb w rfl hi2 dX8_feels_41 ?_
    refine lv_if_eq (tgt := 232) hx hb dX8_feels_42 (by decide) (fun c3 => ?_) (fun c3 => ?_)
    · have h := h.1 c3
      refine lv_iinc (v := x1 + 1) (lv' := [(1, .int (x1 + 1)), (0, .ref (ad 132))]) hx hb dX8_feels_232 hl (k := 1) rfl rfl (by decide) rfl (fun ls hl => ?_)
      refine lv_goto (tgt := 29) hx hb dX8_feels_235 (by decide) ?_
      exact h _ _ _ _ _ _ _ _ _ _ _ _ _ _ _ _ C w (lv_sub hl [1, 0] rfl)
    · have h := h.2 c3
      refine lv_aload_n hx hb dX8_feels_45 rfl (lv_at hl 0 rfl) ?_
      refine tk_get (k := 132) (v := .ref (ad 151)) hx hb hts hown w rfl rfl inlX8 23 (by decide) mw_120 rfl dX8_feels_46 ?_
      refine lv_iload_n hx hb dX8_feels_49 rfl (lv_at hl 1 rfl) ?_
      obtain ⟨hi4, h⟩ := h
      refine tk_iald (k := 151) hx hb w rfl hi4 dX8_feels_50 ?_
      refine lv_iconst (v := (-1)) hx hb dX8_feels_51 (by decide) ?_
      refine lv_icmp_eq (tgt := 58) hx hb dX8_feels_52 (by decide) (fun c5 => ?_) (fun c5 => ?_)
      · have h := h.1 c5
        refine lv_iconst (v := 1) hx hb dX8_feels_58 (by decide) ?_
        refine lv_istore_n (lv' := [(2, .int 1), (0, .ref (ad 132)), (1, .int x1)]) hx hb dX8_feels_59 rfl hl (by decide) rfl (fun ls hl => ?_)
        refine lv_aload_n hx hb dX8_feels_60 rfl (lv_at hl 1 rfl) ?_
        refine tk_get (k := 132) (v := .ref (ad 152)) hx hb hts hown w rfl rfl inlX8 24 (by decide) mw_121 rfl dX8_feels_61 ?_
        refine lv_iconst (v := 0) hx hb dX8_feels_64 (by decide) ?_
        refine lv_iload_n hx hb dX8_feels_65 rfl (lv_at hl 2 rfl) ?_
        refine tk_iast (k := 152) hx hb w rfl (by unfold vp_in; decide) dX8_feels_66 (fun H locs w => ?_)
        refine lv_aload_n hx hb dX8_feels_67 rfl (lv_at hl 1 rfl) ?_
        refine tk_get (k := 132) (v := .ref (ad 151)) hx hb hts hown w rfl rfl inlX8 23 (by decide) mw_120 rfl dX8_feels_68 ?_
        refine lv_iload_n hx hb dX8_feels_71 rfl (lv_at hl 2 rfl) ?_
        refine lv_aload_n hx hb dX8_feels_72 rfl (lv_at hl 1 rfl) ?_
        refine tk_get (k := 132) (v := .int ((tk_up σ 152 (Int32.toNatClampNeg 0) x1).1 132 25)) hx hb hts hown w rfl rfl inlX8 25 (by decide) mw_742 rfl dX8_feels_73 ?_
        obtain ⟨hi6, h⟩ := h
        refine tk_iast (k := 151) hx hb w rfl hi6 dX8_feels_76 (fun H locs w => ?_)
        generalize e_σ7 : tk_up (tk_up σ 152 (Int32.toNatClampNeg 0) x1) 151 (Int32.toNatClampNeg x1) ((tk_up σ 152 (Int32.toNatClampNeg 0) x1).1 132 25) = σ7 at w
        have h := h σ7 e_σ7.symm
        refine lv_iconst (v := 0) hx hb dX8_feels_77 (by decide) ?_
        refine lv_istore_n (lv' := [(3, .int 0), (2, .int 1), (0, .ref (ad 132)), (1, .int x1)]) hx hb dX8_feels_78 rfl hl (by decide) rfl (fun ls hl => ?_)
        exact h _ _ _ _ _ _ _ _ _ _ _ _ _ _ _ _ C w (lv_sub hl [2, 3, 1, 0] rfl)
      · have h := h.2 c5
        refine lv_goto (tgt := 232) hx hb dX8_feels_55 (by decide) ?_
        refine lv_iinc (v := x1 + 1) (lv' := [(1, .int (x1 + 1)), (0, .ref (ad 132))]) hx hb dX8_feels_232 hl (k := 1) rfl rfl (by decide) rfl (fun ls hl => ?_)
        refine lv_goto (tgt := 29) hx hb dX8_feels_235 (by decide) ?_
        exact h _ _ _ _ _ _ _ _ _ _ _ _ _ _ _ _ C w (lv_sub hl [1, 0] rfl)
set_option maxHeartbeats 4000000 in
set_option maxRecDepth 100000 in
theorem b_X8_feels_7 (d : Nat) (x1 : Int32) (σ : tk_S) (Q : tk_S → Prop) (h : (576 ≤ x1 → g_X8_feels (d + 1) 29 [(0, aN 132), (1, aI 0)] σ Q) ∧ (¬ 576 ≤ x1 → vp_in x1 576 ∧ (g_X8_feels (d + 1) 7 [(0, aN 132), (1, aI (x1 + 1))] (tk_up σ 151 (Int32.toNatClampNeg x1) (-1)) Q))) : g_X8_feels (d + 1) 7 [(0, aN 132), (1, aI x1)] σ Q := by
  intro p l e s m args below meth c D cy ad base H locs ls C w hl
  obtain ⟨hx, hb, hml, hown, hts, hr, hlk⟩ := id C
  have hl : lv_has ls 7 [(0, .ref (ad 132)), (1, .int x1)] := hl
  refine lv_iload_n hx hb dX8_feels_7 rfl (lv_at hl 1 rfl) ?_
  refine lv_sipush (v := 576) hx hb dX8_feels_8 (by decide) ?_
  refine lv_icmp_ge (tgt := 27) hx hb dX8_feels_11 (by decide) (fun c1 => ?_) (fun c1 => ?_)
  · have h := h.1 c1
    refine lv_iconst (v := 0) hx hb dX8_feels_27 (by decide) ?_
    refine lv_istore_n (lv' := [(1, .int 0), (0, .ref (ad 132))]) hx hb dX8_feels_28 rfl hl (by decide) rfl (fun ls hl => ?_)
    exact h _ _ _ _ _ _ _ _ _ _ _ _ _ _ _ _ C w (lv_sub hl [1, 0] rfl)
  · have h := h.2 c1
    refine lv_aload_n hx hb dX8_feels_14 rfl (lv_at hl 0 rfl) ?_
    refine tk_get (k := 132) (v := .ref (ad 151)) hx hb hts hown w rfl rfl inlX8 23 (by decide) mw_120 rfl dX8_feels_15 ?_
    refine lv_iload_n hx hb dX8_feels_18 rfl (lv_at hl 1 rfl) ?_
    refine lv_iconst (v := (-1)) hx hb dX8_feels_19 (by decide) ?_
    obtain ⟨hi2, h⟩ := h
    refine tk_iast (k := 151) hx hb w rfl hi2 dX8_feels_20 (fun H locs w => ?_)
    refine lv_iinc (v := x1 + 1) (lv' := [(1, .int (x1 + 1)), (0, .ref (ad 132))]) hx hb dX8_feels_21 hl (k := 1) rfl rfl (by decide) rfl (fun ls hl => ?_)
    refine lv_goto (tgt := 7) hx hb dX8_feels_24 (by decide) ?_
    exact h _ _ _ _ _ _ _ _ _ _ _ _ _ _ _ _ C w (lv_sub hl [1, 0] rfl)
set_option maxHeartbeats 4000000 in
set_option maxRecDepth 100000 in
theorem b_X8_feels_0 (d : Nat)  (σ : tk_S) (Q : tk_S → Prop) (h : g_X8_feels (d + 1) 7 [(0, aN 132), (1, aI 0)] (tk_up σ 132 25 0) Q) : g_X8_feels (d + 1) 0 [(0, aN 132)] σ Q := by
  intro p l e s m args below meth c D cy ad base H locs ls C w hl
  obtain ⟨hx, hb, hml, hown, hts, hr, hlk⟩ := id C
  have hl : lv_has ls 7 [(0, .ref (ad 132))] := hl
  refine lv_aload_n hx hb dX8_feels_0 rfl (lv_at hl 0 rfl) ?_
  refine lv_iconst (v := 0) hx hb dX8_feels_1 (by decide) ?_
  refine tk_puti (k := 132) (ty := .int) hx hb hts hown w rfl rfl inlX8 tyX8 tyX8_ok nmX8 25 (by decide) mw_742 rfl rfl (by decide +kernel) rfl rfl dX8_feels_2 (fun H locs w => ?_)
  refine lv_iconst (v := 0) hx hb dX8_feels_5 (by decide) ?_
  refine lv_istore_n (lv' := [(1, .int 0), (0, .ref (ad 132))]) hx hb dX8_feels_6 rfl hl (by decide) rfl (fun ls hl => ?_)
  exact h _ _ _ _ _ _ _ _ _ _ _ _ _ _ _ _ C w (lv_sub hl [1, 0] rfl)
theorem e_X8_feels (d : Nat)  {σ : tk_S} {Q : tk_S → Prop} (h : g_X8_feels d 0 [(0, aN 132)] σ Q) : p_X8_feels d [aN 132] σ Q := tk_entry (by decide) rfl (fun _ => Nat.le_of_ble_eq_true rfl) (fun _ => rfl) h
abbrev g_X8_things (d pc : Nat) (vals : List (Nat × tk_V)) (σ : tk_S) (Q : Int32 → tk_S → Prop) : Prop := tk_G RX8 cX8_things 1 (some .int) d pc vals σ (tk_i Q)
set_option maxHeartbeats 4000000 in
set_option maxRecDepth 100000 in
theorem b_X8_things_0 (d : Nat)  (σ : tk_S) (Q : Int32 → tk_S → Prop) (h : p_X8_feels d [aN 132] σ (fun σ2 => Q (σ2.1 132 25) σ2)) : g_X8_things (d + 1) 0 [(0, aN 132)] σ Q := by
  intro p l e s m args below meth c D cy ad base H locs ls C w hl
  obtain ⟨hx, hb, hml, hown, hts, hr, hlk⟩ := id C
  have hl : lv_has ls 1 [(0, .ref (ad 132))] := hl
  refine lv_aload_n hx hb dX8_things_0 rfl (lv_at hl 0 rfl) ?_
  refine tk_cV C w (k := 132) rfl rfl (as := []) (rest := []) mw_746 mw_5 mw_743 mw_744 mw_745 hd_X8_feels (by decide) hl.1 (Nat.le_of_ble_eq_true rfl) rfl dX8_things_1 h (fun r1 σ2 H locs hq w => ?_)
  obtain ⟨rfl, h⟩ := hq
  refine W.eq (g2 := F0 m 4 ls []) rfl ?_
  refine lv_aload_n hx hb dX8_things_4 rfl (lv_at hl 0 rfl) ?_
  refine tk_get (k := 132) (v := .int (σ2.1 132 25)) hx hb hts hown w rfl rfl inlX8 25 (by decide) mw_742 rfl dX8_things_5 ?_
  exact tk_reti C w dX8_things_8 h
theorem e_X8_things (d : Nat)  {σ : tk_S} {Q : Int32 → tk_S → Prop} (h : g_X8_things d 0 [(0, aN 132)] σ Q) : p_X8_things d [aN 132] σ Q := tk_entry (by decide) rfl (fun _ => Nat.le_of_ble_eq_true rfl) (fun _ => rfl) h
abbrev g_X8_beside (d pc : Nat) (vals : List (Nat × tk_V)) (σ : tk_S) (Q : Int32 → tk_S → Prop) : Prop := tk_G RX8 cX8_beside 6 (some .int) d pc vals σ (tk_i Q)
set_option maxHeartbeats 4000000 in
set_option maxRecDepth 100000 in
theorem b_X8_beside_4 (d : Nat) (x1 : Int32) (x2 : Int32) (x3 : Int32) (σ : tk_S) (Q : Int32 → tk_S → Prop) (h : (9 ≤ x3 → Q x2 σ) ∧ (¬ 9 ≤ x3 → ∀ z2 : Int32, z2 = ((x1 - x1 / 24 * 24) + (x3 - x3 / 3 * 3)) - 1 → (∀ z3 : Int32, z3 = ((x1 / 24) + (x3 / 3)) - 1 → ((x3 = 4 → g_X8_beside (d + 1) 4 [(0, aN 132), (1, aI x1), (2, aI (x2 + 0)), (3, aI (x3 + 1))] σ Q) ∧ (¬ x3 = 4 → p_X8_isPin d [aI z2, aI z3] σ (fun y7 σ6 => (y7 = 0 → g_X8_beside (d + 1) 4 [(0, aN 132), (1, aI x1), (2, aI (x2 + 0)), (3, aI (x3 + 1))] σ6 Q) ∧ (¬ y7 = 0 → vp_in ((24 * z3) + z2) 576 ∧ (((σ6.1 150 (Int32.toNatClampNeg ((24 * z3) + z2))) = 0 → g_X8_beside (d + 1) 4 [(0, aN 132), (1, aI x1), (2, aI (x2 + 0)), (3, aI (x3 + 1))] σ6 Q) ∧ (¬ (σ6.1 150 (Int32.toNatClampNeg ((24 * z3) + z2))) = 0 → g_X8_beside (d + 1) 4 [(0, aN 132), (1, aI x1), (2, aI (x2 + 1)), (3, aI (x3 + 1))] σ6 Q))))))))) : g_X8_beside (d + 1) 4 [(0, aN 132), (1, aI x1), (2, aI x2), (3, aI x3)] σ Q := by
  intro p l e s m args below meth c D cy ad base H locs ls C w hl
  obtain ⟨hx, hb, hml, hown, hts, hr, hlk⟩ := id C
  have hl : lv_has ls 6 [(0, .ref (ad 132)), (1, .int x1), (2, .int x2), (3, .int x3)] := hl
  refine lv_iload_n hx hb dX8_beside_4 rfl (lv_at hl 3 rfl) ?_
  refine lv_bipush (v := 9) hx hb dX8_beside_5 (by decide) ?_
  refine lv_icmp_ge (tgt := 79) hx hb dX8_beside_7 (by decide) (fun c1 => ?_) (fun c1 => ?_)
  · have h := h.1 c1
    refine lv_iload_n hx hb dX8_beside_79 rfl (lv_at hl 2 rfl) ?_
    exact tk_reti C w dX8_beside_80 h
  · have h := h.2 c1
    refine lv_iload_n hx hb dX8_beside_10 rfl (lv_at hl 1 rfl) ?_
    refine lv_bipush (v := 24) hx hb dX8_beside_11 (by decide) ?_
    refine lv_irem hx hb dX8_beside_13 (by decide) ?_
    refine lv_iload_n hx hb dX8_beside_14 rfl (lv_at hl 3 rfl) ?_
    refine lv_iconst (v := 3) hx hb dX8_beside_15 (by decide) ?_
    refine lv_irem hx hb dX8_beside_16 (by decide) ?_
    refine lv_iadd hx hb dX8_beside_17 ?_
    refine lv_iconst (v := 1) hx hb dX8_beside_18 (by decide) ?_
    refine lv_isub hx hb dX8_beside_19 ?_
    refine lv_topi (fun z2 e_z2 => ?_)
    have h := h z2 e_z2
    refine lv_istore (lv' := [(4, .int z2), (0, .ref (ad 132)), (1, .int x1), (2, .int x2), (3, .int x3)]) hx hb dX8_beside_20 hl (by decide) rfl (fun ls hl => ?_)
    refine lv_iload_n hx hb dX8_beside_22 rfl (lv_at hl 2 rfl) ?_
    refine lv_bipush (v := 24) hx hb dX8_beside_23 (by decide) ?_
    refine lv_idiv hx hb dX8_beside_25 (by decide) ?_
    refine lv_iload_n hx hb dX8_beside_26 rfl (lv_at hl 4 rfl) ?_
    refine lv_iconst (v := 3) hx hb dX8_beside_27 (by decide) ?_
    refine lv_idiv hx hb dX8_beside_28 (by decide) ?_
    refine lv_iadd hx hb dX8_beside_29 ?_
    refine lv_iconst (v := 1) hx hb dX8_beside_30 (by decide) ?_
    refine lv_isub hx hb dX8_beside_31 ?_
    refine lv_topi (fun z3 e_z3 => ?_)
    have h := h z3 e_z3
    refine lv_istore (lv' := [(5, .int z3), (4, .int z2), (0, .ref (ad 132)), (1, .int x1), (2, .int x2), (3, .int x3)]) hx hb dX8_beside_32 hl (by decide) rfl (fun ls hl => ?_)
    refine lv_iload_n hx hb dX8_beside_34 rfl (lv_at hl 4 rfl) ?_
    refine lv_iload_n hx hb dX8_beside_35 rfl (lv_at hl 5 rfl) ?_
    refine lv_iconst (v := 4) hx hb dX8_beside_36 (by decide) ?_
    refine lv_icmp_eq (tgt := 70) hx hb dX8_beside_37 (by decide) (fun c4 => ?_) (fun c4 => ?_)
    · have h := h.1 c4
      refine lv_iconst (v := 0) hx hb dX8_beside_70 (by decide) ?_
      refine lv_iadd hx hb dX8_beside_71 ?_
      refine lv_istore_n (lv' := [(2, .int (x2 + 0)), (5, .int z3), (4, .int z2), (0, .ref (ad 132)), (1, .int x1), (3, .int x3)]) hx hb dX8_beside_72 rfl hl (by decide) rfl (fun ls hl => ?_)
      refine lv_iinc (v := x3 + 1) (lv' := [(3, .int (x3 + 1)), (2, .int (x2 + 0)), (5, .int z3), (4, .int z2), (0, .ref (ad 132)), (1, .int x1)]) hx hb dX8_beside_73 hl (k := 5) rfl rfl (by decide) rfl (fun ls hl => ?_)
      refine lv_goto (tgt := 4) hx hb dX8_beside_76 (by decide) ?_
      exact h _ _ _ _ _ _ _ _ _ _ _ _ _ _ _ _ C w (lv_sub hl [4, 5, 1, 0] rfl)
    · have h := h.2 c4
      refine lv_iload hx hb dX8_beside_40 (lv_at hl 1 rfl) ?_
      refine lv_iload hx hb dX8_beside_42 (lv_at hl 0 rfl) ?_
      refine tk_cS C w (as := [aI z2, aI z3]) (rest := [.int x2]) mw_137 mw_5 mw_135 mw_136 hd_X8_isPin (by decide) hl.1 (Nat.le_of_ble_eq_true rfl) rfl dX8_beside_44 h (fun r5 σ6 H locs hq w => ?_)
      obtain ⟨y7, rfl, h⟩ := hq
      refine W.eq (g2 := F0 m 47 ls [.int y7, .int x2]) rfl ?_
      refine lv_if_eq (tgt := 70) hx hb dX8_beside_47 (by decide) (fun c8 => ?_) (fun c8 => ?_)
      · have h := h.1 c8
        refine lv_iconst (v := 0) hx hb dX8_beside_70 (by decide) ?_
        refine lv_iadd hx hb dX8_beside_71 ?_
        refine lv_istore_n (lv' := [(2, .int (x2 + 0)), (5, .int z3), (4, .int z2), (0, .ref (ad 132)), (1, .int x1), (3, .int x3)]) hx hb dX8_beside_72 rfl hl (by decide) rfl (fun ls hl => ?_)
        refine lv_iinc (v := x3 + 1) (lv' := [(3, .int (x3 + 1)), (2, .int (x2 + 0)), (5, .int z3), (4, .int z2), (0, .ref (ad 132)), (1, .int x1)]) hx hb dX8_beside_73 hl (k := 5) rfl rfl (by decide) rfl (fun ls hl => ?_)
        refine lv_goto (tgt := 4) hx hb dX8_beside_76 (by decide) ?_
        exact h _ _ _ _ _ _ _ _ _ _ _ _ _ _ _ _ C w (lv_sub hl [4, 5, 1, 0] rfl)
      · have h := h.2 c8
        refine lv_aload_n hx hb dX8_beside_50 rfl (lv_at hl 2 rfl) ?_
        refine tk_get (k := 132) (v := .ref (ad 150)) hx hb hts hown w rfl rfl inlX8 22 (by decide) mw_119 rfl dX8_beside_51 ?_
        refine lv_bipush (v := 24) hx hb dX8_beside_54 (by decide) ?_
        refine lv_iload hx hb dX8_beside_56 (lv_at hl 0 rfl) ?_
        refine lv_imul hx hb dX8_beside_58 ?_
        refine lv_iload hx hb dX8_beside_59 (lv_at hl 1 rfl) ?_
        refine lv_iadd hx hb dX8_beside_61 ?_
        obtain ⟨hi9, h⟩ := h
        refine tk_zald (k := 150) hx hb w rfl hi9 dX8_beside_62 ?_
        refine lv_if_eq (tgt := 70) hx hb dX8_beside_63 (by decide) (fun c10 => ?_) (fun c10 => ?_)
        · have h := h.1 c10
          refine lv_iconst (v := 0) hx hb dX8_beside_70 (by decide) ?_
          refine lv_iadd hx hb dX8_beside_71 ?_
          refine lv_istore_n (lv' := [(2, .int (x2 + 0)), (5, .int z3), (4, .int z2), (0, .ref (ad 132)), (1, .int x1), (3, .int x3)]) hx hb dX8_beside_72 rfl hl (by decide) rfl (fun ls hl => ?_)
          refine lv_iinc (v := x3 + 1) (lv' := [(3, .int (x3 + 1)), (2, .int (x2 + 0)), (5, .int z3), (4, .int z2), (0, .ref (ad 132)), (1, .int x1)]) hx hb dX8_beside_73 hl (k := 5) rfl rfl (by decide) rfl (fun ls hl => ?_)
          refine lv_goto (tgt := 4) hx hb dX8_beside_76 (by decide) ?_
          exact h _ _ _ _ _ _ _ _ _ _ _ _ _ _ _ _ C w (lv_sub hl [4, 5, 1, 0] rfl)
        · have h := h.2 c10
          refine lv_iconst (v := 1) hx hb dX8_beside_66 (by decide) ?_
          refine lv_goto (tgt := 71) hx hb dX8_beside_67 (by decide) ?_
          refine lv_iadd hx hb dX8_beside_71 ?_
          refine lv_istore_n (lv' := [(2, .int (x2 + 1)), (5, .int z3), (4, .int z2), (0, .ref (ad 132)), (1, .int x1), (3, .int x3)]) hx hb dX8_beside_72 rfl hl (by decide) rfl (fun ls hl => ?_)
          refine lv_iinc (v := x3 + 1) (lv' := [(3, .int (x3 + 1)), (2, .int (x2 + 1)), (5, .int z3), (4, .int z2), (0, .ref (ad 132)), (1, .int x1)]) hx hb dX8_beside_73 hl (k := 5) rfl rfl (by decide) rfl (fun ls hl => ?_)
          refine lv_goto (tgt := 4) hx hb dX8_beside_76 (by decide) ?_
          exact h _ _ _ _ _ _ _ _ _ _ _ _ _ _ _ _ C w (lv_sub hl [4, 5, 1, 0] rfl)
set_option maxHeartbeats 4000000 in
set_option maxRecDepth 100000 in
theorem b_X8_beside_0 (d : Nat) (x1 : Int32) (σ : tk_S) (Q : Int32 → tk_S → Prop) (h : g_X8_beside (d + 1) 4 [(0, aN 132), (1, aI x1), (2, aI 0), (3, aI 0)] σ Q) : g_X8_beside (d + 1) 0 [(0, aN 132), (1, aI x1)] σ Q := by
  intro p l e s m args below meth c D cy ad base H locs ls C w hl
  obtain ⟨hx, hb, hml, hown, hts, hr, hlk⟩ := id C
  have hl : lv_has ls 6 [(0, .ref (ad 132)), (1, .int x1)] := hl
  refine lv_iconst (v := 0) hx hb dX8_beside_0 (by decide) ?_
  refine lv_istore_n (lv' := [(2, .int 0), (0, .ref (ad 132)), (1, .int x1)]) hx hb dX8_beside_1 rfl hl (by decide) rfl (fun ls hl => ?_)
  refine lv_iconst (v := 0) hx hb dX8_beside_2 (by decide) ?_
  refine lv_istore_n (lv' := [(3, .int 0), (2, .int 0), (0, .ref (ad 132)), (1, .int x1)]) hx hb dX8_beside_3 rfl hl (by decide) rfl (fun ls hl => ?_)
  exact h _ _ _ _ _ _ _ _ _ _ _ _ _ _ _ _ C w (lv_sub hl [2, 3, 1, 0] rfl)
theorem e_X8_beside (d : Nat) (x1 : Int32) {σ : tk_S} {Q : Int32 → tk_S → Prop} (h : g_X8_beside d 0 [(0, aN 132), (1, aI x1)] σ Q) : p_X8_beside d [aN 132, aI x1] σ Q := tk_entry (by decide) rfl (fun _ => Nat.le_of_ble_eq_true rfl) (fun _ => rfl) h
abbrev g_X8_thing (d pc : Nat) (vals : List (Nat × tk_V)) (σ : tk_S) (Q : Int32 → tk_S → Prop) : Prop := tk_G RX8 cX8_thing 10 (some .int) d pc vals σ (tk_i Q)
set_option maxHeartbeats 4000000 in
set_option maxRecDepth 100000 in
theorem b_X8_thing_140 (d : Nat) (x1 : Int32) (x2 : Int32) (x3 : Int32) (x4 : Int32) (x5 : Int32) (x6 : Int32) (x7 : Int32) (x8 : Int32) (x9 : Int32) (σ : tk_S) (Q : Int32 → tk_S → Prop) (h : ((x9 - x9 / 24 * 24) ≤ x7 → ((x9 / 24) ≤ x8 → g_X8_thing (d + 1) 51 [(0, aN 132), (1, aI x1), (2, aI x2), (3, aI x3), (4, aI x4), (5, aI x5), (6, aI x6), (7, aI x7), (8, aI x8), (9, aI (x9 + 1))] σ Q) ∧ (¬ (x9 / 24) ≤ x8 → ∀ z3 : Int32, z3 = x9 / 24 → (g_X8_thing (d + 1) 51 [(0, aN 132), (1, aI x1), (2, aI x2), (3, aI x3), (4, aI x4), (5, aI x5), (6, aI x6), (7, aI x7), (8, aI z3), (9, aI (x9 + 1))] σ Q))) ∧ (¬ (x9 - x9 / 24 * 24) ≤ x7 → ∀ z4 : Int32, z4 = x9 - x9 / 24 * 24 → (((x9 / 24) ≤ x8 → g_X8_thing (d + 1) 51 [(0, aN 132), (1, aI x1), (2, aI x2), (3, aI x3), (4, aI x4), (5, aI x5), (6, aI x6), (7, aI z4), (8, aI x8), (9, aI (x9 + 1))] σ Q) ∧ (¬ (x9 / 24) ≤ x8 → ∀ z6 : Int32, z6 = x9 / 24 → (g_X8_thing (d + 1) 51 [(0, aN 132), (1, aI x1), (2, aI x2), (3, aI x3), (4, aI x4), (5, aI x5), (6, aI x6), (7, aI z4), (8, aI z6), (9, aI (x9 + 1))] σ Q))))) : g_X8_thing (d + 1) 140 [(0, aN 132), (1, aI x1), (2, aI x2), (3, aI x3), (4, aI x4), (5, aI x5), (6, aI x6), (7, aI x7), (8, aI x8), (9, aI x9)] σ Q := by
  intro p l e s m args below meth c D cy ad base H locs ls C w hl
  obtain ⟨hx, hb, hml, hown, hts, hr, hlk⟩ := id C
  have hl : lv_has ls 10 [(0, .ref (ad 132)), (1, .int x1), (2, .int x2), (3, .int x3), (4, .int x4), (5, .int x5), (6, .int x6), (7, .int x7), (8, .int x8), (9, .int x9)] := hl
  refine lv_iload hx hb dX8_thing_140 (lv_at hl 9 rfl) ?_
  refine lv_bipush (v := 24) hx hb dX8_thing_142 (by decide) ?_
  refine lv_irem hx hb dX8_thing_144 (by decide) ?_
  refine lv_iload hx hb dX8_thing_145 (lv_at hl 7 rfl) ?_
  refine lv_icmp_le (tgt := 158) hx hb dX8_thing_147 (by decide) (fun c1 => ?_) (fun c1 => ?_)
  · have h := h.1 c1
    refine lv_iload hx hb dX8_thing_158 (lv_at hl 7 rfl) ?_
    refine lv_istore (lv' := [(7, .int x7), (0, .ref (ad 132)), (1, .int x1), (2, .int x2), (3, .int x3), (4, .int x4), (5, .int x5), (6, .int x6), (8, .int x8), (9, .int x9)]) hx hb dX8_thing_160 hl (by decide) rfl (fun ls hl => ?_)
    refine lv_iload hx hb dX8_thing_162 (lv_at hl 9 rfl) ?_
    refine lv_bipush (v := 24) hx hb dX8_thing_164 (by decide) ?_
    refine lv_idiv hx hb dX8_thing_166 (by decide) ?_
    refine lv_iload hx hb dX8_thing_167 (lv_at hl 8 rfl) ?_
    refine lv_icmp_le (tgt := 180) hx hb dX8_thing_169 (by decide) (fun c2 => ?_) (fun c2 => ?_)
    · have h := h.1 c2
      refine lv_iload hx hb dX8_thing_180 (lv_at hl 8 rfl) ?_
      refine lv_istore (lv' := [(8, .int x8), (7, .int x7), (0, .ref (ad 132)), (1, .int x1), (2, .int x2), (3, .int x3), (4, .int x4), (5, .int x5), (6, .int x6), (9, .int x9)]) hx hb dX8_thing_182 hl (by decide) rfl (fun ls hl => ?_)
      refine lv_iinc (v := x9 + 1) (lv' := [(9, .int (x9 + 1)), (8, .int x8), (7, .int x7), (0, .ref (ad 132)), (1, .int x1), (2, .int x2), (3, .int x3), (4, .int x4), (5, .int x5), (6, .int x6)]) hx hb dX8_thing_184 hl (k := 9) rfl rfl (by decide) rfl (fun ls hl => ?_)
      refine lv_goto (tgt := 51) hx hb dX8_thing_187 (by decide) ?_
      exact h _ _ _ _ _ _ _ _ _ _ _ _ _ _ _ _ C w (lv_sub hl [3, 4, 5, 6, 7, 8, 9, 2, 1, 0] rfl)
    · have h := h.2 c2
      refine lv_iload hx hb dX8_thing_172 (lv_at hl 9 rfl) ?_
      refine lv_bipush (v := 24) hx hb dX8_thing_174 (by decide) ?_
      refine lv_idiv hx hb dX8_thing_176 (by decide) ?_
      refine lv_goto (tgt := 182) hx hb dX8_thing_177 (by decide) ?_
      refine lv_topi (fun z3 e_z3 => ?_)
      have h := h z3 e_z3
      refine lv_istore (lv' := [(8, .int z3), (7, .int x7), (0, .ref (ad 132)), (1, .int x1), (2, .int x2), (3, .int x3), (4, .int x4), (5, .int x5), (6, .int x6), (9, .int x9)]) hx hb dX8_thing_182 hl (by decide) rfl (fun ls hl => ?_)
      refine lv_iinc (v := x9 + 1) (lv' := [(9, .int (x9 + 1)), (8, .int z3), (7, .int x7), (0, .ref (ad 132)), (1, .int x1), (2, .int x2), (3, .int x3), (4, .int x4), (5, .int x5), (6, .int x6)]) hx hb dX8_thing_184 hl (k := 9) rfl rfl (by decide) rfl (fun ls hl => ?_)
      refine lv_goto (tgt := 51) hx hb dX8_thing_187 (by decide) ?_
      exact h _ _ _ _ _ _ _ _ _ _ _ _ _ _ _ _ C w (lv_sub hl [3, 4, 5, 6, 7, 8, 9, 2, 1, 0] rfl)
  · have h := h.2 c1
    refine lv_iload hx hb dX8_thing_150 (lv_at hl 9 rfl) ?_
    refine lv_bipush (v := 24) hx hb dX8_thing_152 (by decide) ?_
    refine lv_irem hx hb dX8_thing_154 (by decide) ?_
    refine lv_goto (tgt := 160) hx hb dX8_thing_155 (by decide) ?_
    refine lv_topi (fun z4 e_z4 => ?_)
    have h := h z4 e_z4
    refine lv_istore (lv' := [(7, .int z4), (0, .ref (ad 132)), (1, .int x1), (2, .int x2), (3, .int x3), (4, .int x4), (5, .int x5), (6, .int x6), (8, .int x8), (9, .int x9)]) hx hb dX8_thing_160 hl (by decide) rfl (fun ls hl => ?_)
    refine lv_iload hx hb dX8_thing_162 (lv_at hl 9 rfl) ?_
    refine lv_bipush (v := 24) hx hb dX8_thing_164 (by decide) ?_
    refine lv_idiv hx hb dX8_thing_166 (by decide) ?_
    refine lv_iload hx hb dX8_thing_167 (lv_at hl 8 rfl) ?_
    refine lv_icmp_le (tgt := 180) hx hb dX8_thing_169 (by decide) (fun c5 => ?_) (fun c5 => ?_)
    · have h := h.1 c5
      refine lv_iload hx hb dX8_thing_180 (lv_at hl 8 rfl) ?_
      refine lv_istore (lv' := [(8, .int x8), (7, .int z4), (0, .ref (ad 132)), (1, .int x1), (2, .int x2), (3, .int x3), (4, .int x4), (5, .int x5), (6, .int x6), (9, .int x9)]) hx hb dX8_thing_182 hl (by decide) rfl (fun ls hl => ?_)
      refine lv_iinc (v := x9 + 1) (lv' := [(9, .int (x9 + 1)), (8, .int x8), (7, .int z4), (0, .ref (ad 132)), (1, .int x1), (2, .int x2), (3, .int x3), (4, .int x4), (5, .int x5), (6, .int x6)]) hx hb dX8_thing_184 hl (k := 9) rfl rfl (by decide) rfl (fun ls hl => ?_)
      refine lv_goto (tgt := 51) hx hb dX8_thing_187 (by decide) ?_
      exact h _ _ _ _ _ _ _ _ _ _ _ _ _ _ _ _ C w (lv_sub hl [3, 4, 5, 6, 7, 8, 9, 2, 1, 0] rfl)
    · have h := h.2 c5
      refine lv_iload hx hb dX8_thing_172 (lv_at hl 9 rfl) ?_
      refine lv_bipush (v := 24) hx hb dX8_thing_174 (by decide) ?_
      refine lv_idiv hx hb dX8_thing_176 (by decide) ?_
      refine lv_goto (tgt := 182) hx hb dX8_thing_177 (by decide) ?_
      refine lv_topi (fun z6 e_z6 => ?_)
      have h := h z6 e_z6
      refine lv_istore (lv' := [(8, .int z6), (7, .int z4), (0, .ref (ad 132)), (1, .int x1), (2, .int x2), (3, .int x3), (4, .int x4), (5, .int x5), (6, .int x6), (9, .int x9)]) hx hb dX8_thing_182 hl (by decide) rfl (fun ls hl => ?_)
      refine lv_iinc (v := x9 + 1) (lv' := [(9, .int (x9 + 1)), (8, .int z6), (7, .int z4), (0, .ref (ad 132)), (1, .int x1), (2, .int x2), (3, .int x3), (4, .int x4), (5, .int x5), (6, .int x6)]) hx hb dX8_thing_184 hl (k := 9) rfl rfl (by decide) rfl (fun ls hl => ?_)
      refine lv_goto (tgt := 51) hx hb dX8_thing_187 (by decide) ?_
      exact h _ _ _ _ _ _ _ _ _ _ _ _ _ _ _ _ C w (lv_sub hl [3, 4, 5, 6, 7, 8, 9, 2, 1, 0] rfl)
set_option maxHeartbeats 4000000 in
set_option maxRecDepth 100000 in
theorem b_X8_thing_96 (d : Nat) (x1 : Int32) (x2 : Int32) (x3 : Int32) (x4 : Int32) (x5 : Int32) (x6 : Int32) (x7 : Int32) (x8 : Int32) (x9 : Int32) (σ : tk_S) (Q : Int32 → tk_S → Prop) (h : (x5 ≤ (x9 - x9 / 24 * 24) → (x6 ≤ (x9 / 24) → g_X8_thing (d + 1) 140 [(0, aN 132), (1, aI x1), (2, aI x2), (3, aI x3), (4, aI x4), (5, aI x5), (6, aI x6), (7, aI x7), (8, aI x8), (9, aI x9)] σ Q) ∧ (¬ x6 ≤ (x9 / 24) → ∀ z3 : Int32, z3 = x9 / 24 → (g_X8_thing (d + 1) 140 [(0, aN 132), (1, aI x1), (2, aI x2), (3, aI x3), (4, aI x4), (5, aI x5), (6, aI z3), (7, aI x7), (8, aI x8), (9, aI x9)] σ Q))) ∧ (¬ x5 ≤ (x9 - x9 / 24 * 24) → ∀ z4 : Int32, z4 = x9 - x9 / 24 * 24 → ((x6 ≤ (x9 / 24) → g_X8_thing (d + 1) 140 [(0, aN 132), (1, aI x1), (2, aI x2), (3, aI x3), (4, aI x4), (5, aI z4), (6, aI x6), (7, aI x7), (8, aI x8), (9, aI x9)] σ Q) ∧ (¬ x6 ≤ (x9 / 24) → ∀ z6 : Int32, z6 = x9 / 24 → (g_X8_thing (d + 1) 140 [(0, aN 132), (1, aI x1), (2, aI x2), (3, aI x3), (4, aI x4), (5, aI z4), (6, aI z6), (7, aI x7), (8, aI x8), (9, aI x9)] σ Q))))) : g_X8_thing (d + 1) 96 [(0, aN 132), (1, aI x1), (2, aI x2), (3, aI x3), (4, aI x4), (5, aI x5), (6, aI x6), (7, aI x7), (8, aI x8), (9, aI x9)] σ Q := by
  intro p l e s m args below meth c D cy ad base H locs ls C w hl
  obtain ⟨hx, hb, hml, hown, hts, hr, hlk⟩ := id C
  have hl : lv_has ls 10 [(0, .ref (ad 132)), (1, .int x1), (2, .int x2), (3, .int x3), (4, .int x4), (5, .int x5), (6, .int x6), (7, .int x7), (8, .int x8), (9, .int x9)] := hl
  refine lv_iload hx hb dX8_thing_96 (lv_at hl 9 rfl) ?_
  refine lv_bipush (v := 24) hx hb dX8_thing_98 (by decide) ?_
  refine lv_irem hx hb dX8_thing_100 (by decide) ?_
  refine lv_iload hx hb dX8_thing_101 (lv_at hl 5 rfl) ?_
  refine lv_icmp_ge (tgt := 114) hx hb dX8_thing_103 (by decide) (fun c1 => ?_) (fun c1 => ?_)
  · have h := h.1 c1
    refine lv_iload hx hb dX8_thing_114 (lv_at hl 5 rfl) ?_
    refine lv_istore (lv' := [(5, .int x5), (0, .ref (ad 132)), (1, .int x1), (2, .int x2), (3, .int x3), (4, .int x4), (6, .int x6), (7, .int x7), (8, .int x8), (9, .int x9)]) hx hb dX8_thing_116 hl (by decide) rfl (fun ls hl => ?_)
    refine lv_iload hx hb dX8_thing_118 (lv_at hl 9 rfl) ?_
    refine lv_bipush (v := 24) hx hb dX8_thing_120 (by decide) ?_
    refine lv_idiv hx hb dX8_thing_122 (by decide) ?_
    refine lv_iload hx hb dX8_thing_123 (lv_at hl 6 rfl) ?_
    refine lv_icmp_ge (tgt := 136) hx hb dX8_thing_125 (by decide) (fun c2 => ?_) (fun c2 => ?_)
    · have h := h.1 c2
      refine lv_iload hx hb dX8_thing_136 (lv_at hl 6 rfl) ?_
      refine lv_istore (lv' := [(6, .int x6), (5, .int x5), (0, .ref (ad 132)), (1, .int x1), (2, .int x2), (3, .int x3), (4, .int x4), (7, .int x7), (8, .int x8), (9, .int x9)]) hx hb dX8_thing_138 hl (by decide) rfl (fun ls hl => ?_)
      exact h _ _ _ _ _ _ _ _ _ _ _ _ _ _ _ _ C w (lv_sub hl [2, 3, 4, 5, 6, 1, 0, 7, 8, 9] rfl)
    · have h := h.2 c2
      refine lv_iload hx hb dX8_thing_128 (lv_at hl 9 rfl) ?_
      refine lv_bipush (v := 24) hx hb dX8_thing_130 (by decide) ?_
      refine lv_idiv hx hb dX8_thing_132 (by decide) ?_
      refine lv_goto (tgt := 138) hx hb dX8_thing_133 (by decide) ?_
      refine lv_topi (fun z3 e_z3 => ?_)
      have h := h z3 e_z3
      refine lv_istore (lv' := [(6, .int z3), (5, .int x5), (0, .ref (ad 132)), (1, .int x1), (2, .int x2), (3, .int x3), (4, .int x4), (7, .int x7), (8, .int x8), (9, .int x9)]) hx hb dX8_thing_138 hl (by decide) rfl (fun ls hl => ?_)
      exact h _ _ _ _ _ _ _ _ _ _ _ _ _ _ _ _ C w (lv_sub hl [2, 3, 4, 5, 6, 1, 0, 7, 8, 9] rfl)
  · have h := h.2 c1
    refine lv_iload hx hb dX8_thing_106 (lv_at hl 9 rfl) ?_
    refine lv_bipush (v := 24) hx hb dX8_thing_108 (by decide) ?_
    refine lv_irem hx hb dX8_thing_110 (by decide) ?_
    refine lv_goto (tgt := 116) hx hb dX8_thing_111 (by decide) ?_
    refine lv_topi (fun z4 e_z4 => ?_)
    have h := h z4 e_z4
    refine lv_istore (lv' := [(5, .int z4), (0, .ref (ad 132)), (1, .int x1), (2, .int x2), (3, .int x3), (4, .int x4), (6, .int x6), (7, .int x7), (8, .int x8), (9, .int x9)]) hx hb dX8_thing_116 hl (by decide) rfl (fun ls hl => ?_)
    refine lv_iload hx hb dX8_thing_118 (lv_at hl 9 rfl) ?_
    refine lv_bipush (v := 24) hx hb dX8_thing_120 (by decide) ?_
    refine lv_idiv hx hb dX8_thing_122 (by decide) ?_
    refine lv_iload hx hb dX8_thing_123 (lv_at hl 6 rfl) ?_
    refine lv_icmp_ge (tgt := 136) hx hb dX8_thing_125 (by decide) (fun c5 => ?_) (fun c5 => ?_)
    · have h := h.1 c5
      refine lv_iload hx hb dX8_thing_136 (lv_at hl 6 rfl) ?_
      refine lv_istore (lv' := [(6, .int x6), (5, .int z4), (0, .ref (ad 132)), (1, .int x1), (2, .int x2), (3, .int x3), (4, .int x4), (7, .int x7), (8, .int x8), (9, .int x9)]) hx hb dX8_thing_138 hl (by decide) rfl (fun ls hl => ?_)
      exact h _ _ _ _ _ _ _ _ _ _ _ _ _ _ _ _ C w (lv_sub hl [2, 3, 4, 5, 6, 1, 0, 7, 8, 9] rfl)
    · have h := h.2 c5
      refine lv_iload hx hb dX8_thing_128 (lv_at hl 9 rfl) ?_
      refine lv_bipush (v := 24) hx hb dX8_thing_130 (by decide) ?_
      refine lv_idiv hx hb dX8_thing_132 (by decide) ?_
      refine lv_goto (tgt := 138) hx hb dX8_thing_133 (by decide) ?_
      refine lv_topi (fun z6 e_z6 => ?_)
      have h := h z6 e_z6
      refine lv_istore (lv' := [(6, .int z6), (5, .int z4), (0, .ref (ad 132)), (1, .int x1), (2, .int x2), (3, .int x3), (4, .int x4), (7, .int x7), (8, .int x8), (9, .int x9)]) hx hb dX8_thing_138 hl (by decide) rfl (fun ls hl => ?_)
      exact h _ _ _ _ _ _ _ _ _ _ _ _ _ _ _ _ C w (lv_sub hl [2, 3, 4, 5, 6, 1, 0, 7, 8, 9] rfl)
set_option maxHeartbeats 4000000 in
set_option maxRecDepth 100000 in
theorem b_X8_thing_51 (d : Nat) (x1 : Int32) (x2 : Int32) (x3 : Int32) (x4 : Int32) (x5 : Int32) (x6 : Int32) (x7 : Int32) (x8 : Int32) (x9 : Int32) (σ : tk_S) (Q : Int32 → tk_S → Prop) (h : (576 ≤ x9 → (¬ x2 = 0 → (¬ x2 = 1 → (¬ x2 = 2 → (¬ x2 = 3 → (¬ x2 = 4 → Q x4 σ) ∧ (x2 = 4 → Q x8 σ)) ∧ (x2 = 3 → Q x7 σ)) ∧ (x2 = 2 → Q x6 σ)) ∧ (x2 = 1 → Q x5 σ)) ∧ (x2 = 0 → Q x3 σ)) ∧ (¬ 576 ≤ x9 → vp_in x9 576 ∧ (((σ.1 151 (Int32.toNatClampNeg x9)) = x1 → p_X8_beside d [aN 132, aI x9] σ (fun y11 σ10 => (¬ y11 = 1 → g_X8_thing (d + 1) 96 [(0, aN 132), (1, aI x1), (2, aI x2), (3, aI (x3 + 1)), (4, aI (x4 + 0)), (5, aI x5), (6, aI x6), (7, aI x7), (8, aI x8), (9, aI x9)] σ10 Q) ∧ (y11 = 1 → g_X8_thing (d + 1) 96 [(0, aN 132), (1, aI x1), (2, aI x2), (3, aI (x3 + 1)), (4, aI (x4 + 1)), (5, aI x5), (6, aI x6), (7, aI x7), (8, aI x8), (9, aI x9)] σ10 Q))) ∧ (¬ (σ.1 151 (Int32.toNatClampNeg x9)) = x1 → g_X8_thing (d + 1) 51 [(0, aN 132), (1, aI x1), (2, aI x2), (3, aI x3), (4, aI x4), (5, aI x5), (6, aI x6), (7, aI x7), (8, aI x8), (9, aI (x9 + 1))] σ Q)))) : g_X8_thing (d + 1) 51 [(0, aN 132), (1, aI x1), (2, aI x2), (3, aI x3), (4, aI x4), (5, aI x5), (6, aI x6), (7, aI x7), (8, aI x8), (9, aI x9)] σ Q := by
  intro p l e s m args below meth c D cy ad base H locs ls C w hl
  obtain ⟨hx, hb, hml, hown, hts, hr, hlk⟩ := id C
  have hl : lv_has ls 10 [(0, .ref (ad 132)), (1, .int x1), (2, .int x2), (3, .int x3), (4, .int x4), (5, .int x5), (6, .int x6), (7, .int x7), (8, .int x8), (9, .int x9)] := hl
  refine lv_iload hx hb dX8_thing_51 (lv_at hl 9 rfl) ?_
  refine lv_sipush (v := 576) hx hb dX8_thing_53 (by decide) ?_
  refine lv_icmp_ge (tgt := 190) hx hb dX8_thing_56 (by decide) (fun c1 => ?_) (fun c1 => ?_)
  · have h := h.1 c1
    refine lv_iload_n hx hb dX8_thing_190 rfl (lv_at hl 2 rfl) ?_
    refine lv_if_ne (tgt := 198) hx hb dX8_thing_191 (by decide) (fun c2 => ?_) (fun c2 => ?_)
    · have h := h.1 c2
      refine lv_iload_n hx hb dX8_thing_198 rfl (lv_at hl 2 rfl) ?_
      refine lv_iconst (v := 1) hx hb dX8_thing_199 (by decide) ?_
      refine lv_icmp_ne (tgt := 208) hx hb dX8_thing_200 (by decide) (fun c3 => ?_) (fun c3 => ?_)
      · have h := h.1 c3
        refine lv_iload_n hx hb dX8_thing_208 rfl (lv_at hl 2 rfl) ?_
        refine lv_iconst (v := 2) hx hb dX8_thing_209 (by decide) ?_
        refine lv_icmp_ne (tgt := 218) hx hb dX8_thing_210 (by decide) (fun c4 => ?_) (fun c4 => ?_)
        · have h := h.1 c4
          refine lv_iload_n hx hb dX8_thing_218 rfl (lv_at hl 2 rfl) ?_
          refine lv_iconst (v := 3) hx hb dX8_thing_219 (by decide) ?_
          refine lv_icmp_ne (tgt := 228) hx hb dX8_thing_220 (by decide) (fun c5 => ?_) (fun c5 => ?_)
          · have h := h.1 c5
            refine lv_iload_n hx hb dX8_thing_228 rfl (lv_at hl 2 rfl) ?_
            refine lv_iconst (v := 4) hx hb dX8_thing_229 (by decide) ?_
            refine lv_icmp_ne (tgt := 238) hx hb dX8_thing_230 (by decide) (fun c6 => ?_) (fun c6 => ?_)
            · have h := h.1 c6
              refine lv_iload hx hb dX8_thing_238 (lv_at hl 4 rfl) ?_
              exact tk_reti C w dX8_thing_240 h
            · have h := h.2 c6
              refine lv_iload hx hb dX8_thing_233 (lv_at hl 8 rfl) ?_
              refine lv_goto (tgt := 240) hx hb dX8_thing_235 (by decide) ?_
              exact tk_reti C w dX8_thing_240 h
          · have h := h.2 c5
            refine lv_iload hx hb dX8_thing_223 (lv_at hl 7 rfl) ?_
            refine lv_goto (tgt := 240) hx hb dX8_thing_225 (by decide) ?_
            exact tk_reti C w dX8_thing_240 h
        · have h := h.2 c4
          refine lv_iload hx hb dX8_thing_213 (lv_at hl 6 rfl) ?_
          refine lv_goto (tgt := 240) hx hb dX8_thing_215 (by decide) ?_
          exact tk_reti C w dX8_thing_240 h
      · have h := h.2 c3
        refine lv_iload hx hb dX8_thing_203 (lv_at hl 5 rfl) ?_
        refine lv_goto (tgt := 240) hx hb dX8_thing_205 (by decide) ?_
        exact tk_reti C w dX8_thing_240 h
    · have h := h.2 c2
      refine lv_iload_n hx hb dX8_thing_194 rfl (lv_at hl 3 rfl) ?_
      refine lv_goto (tgt := 240) hx hb dX8_thing_195 (by decide) ?_
      exact tk_reti C w dX8_thing_240 h
  · have h := h.2 c1
    refine lv_aload_n hx hb dX8_thing_59 rfl (lv_at hl 0 rfl) ?_
    refine tk_get (k := 132) (v := .ref (ad 151)) hx hb hts hown w rfl rfl inlX8 23 (by decide) mw_120 rfl dX8_thing_60 ?_
    refine lv_iload hx hb dX8_thing_63 (lv_at hl 9 rfl) ?_
    obtain ⟨hi7, h⟩ := h
    refine tk_iald (k := 151) hx hb w rfl hi7 dX8_thing_65 ?_
    refine lv_iload_n hx hb dX8_thing_66 rfl (lv_at hl 1 rfl) ?_
    refine lv_icmp_eq (tgt := 73) hx hb dX8_thing_67 (by decide) (fun c8 => ?_) (fun c8 => ?_)
    · have h := h.1 c8
      refine lv_iinc (v := x3 + 1) (lv' := [(3, .int (x3 + 1)), (0, .ref (ad 132)), (1, .int x1), (2, .int x2), (4, .int x4), (5, .int x5), (6, .int x6), (7, .int x7), (8, .int x8), (9, .int x9)]) hx hb dX8_thing_73 hl (k := 3) rfl rfl (by decide) rfl (fun ls hl => ?_)
      refine lv_iload hx hb dX8_thing_76 (lv_at hl 4 rfl) ?_
      refine lv_aload_n hx hb dX8_thing_78 rfl (lv_at hl 1 rfl) ?_
      refine lv_iload hx hb dX8_thing_79 (lv_at hl 9 rfl) ?_
      refine tk_cV C w (k := 132) rfl rfl (as := [aI x9]) (rest := [.int x4]) mw_759 mw_5 mw_756 mw_757 mw_758 hd_X8_beside (by decide) hl.1 (Nat.le_of_ble_eq_true rfl) rfl dX8_thing_81 h (fun r9 σ10 H locs hq w => ?_)
      obtain ⟨y11, rfl, h⟩ := hq
      refine W.eq (g2 := F0 m 84 ls [.int y11, .int x4]) rfl ?_
      refine lv_iconst (v := 1) hx hb dX8_thing_84 (by decide) ?_
      refine lv_icmp_ne (tgt := 92) hx hb dX8_thing_85 (by decide) (fun c12 => ?_) (fun c12 => ?_)
      · have h := h.1 c12
        refine lv_iconst (v := 0) hx hb dX8_thing_92 (by decide) ?_
        refine lv_iadd hx hb dX8_thing_93 ?_
        refine lv_istore (lv' := [(4, .int (x4 + 0)), (3, .int (x3 + 1)), (0, .ref (ad 132)), (1, .int x1), (2, .int x2), (5, .int x5), (6, .int x6), (7, .int x7), (8, .int x8), (9, .int x9)]) hx hb dX8_thing_94 hl (by decide) rfl (fun ls hl => ?_)
        exact h _ _ _ _ _ _ _ _ _ _ _ _ _ _ _ _ C w (lv_sub hl [2, 3, 4, 1, 0, 5, 6, 7, 8, 9] rfl)
      · have h := h.2 c12
        refine lv_iconst (v := 1) hx hb dX8_thing_88 (by decide) ?_
        refine lv_goto (tgt := 93) hx hb dX8_thing_89 (by decide) ?_
        refine lv_iadd hx hb dX8_thing_93 ?_
        refine lv_istore (lv' := [(4, .int (x4 + 1)), (3, .int (x3 + 1)), (0, .ref (ad 132)), (1, .int x1), (2, .int x2), (5, .int x5), (6, .int x6), (7, .int x7), (8, .int x8), (9, .int x9)]) hx hb dX8_thing_94 hl (by decide) rfl (fun ls hl => ?_)
        exact h _ _ _ _ _ _ _ _ _ _ _ _ _ _ _ _ C w (lv_sub hl [2, 3, 4, 1, 0, 5, 6, 7, 8, 9] rfl)
    · have h := h.2 c8
      refine lv_goto (tgt := 184) hx hb dX8_thing_70 (by decide) ?_
      refine lv_iinc (v := x9 + 1) (lv' := [(9, .int (x9 + 1)), (0, .ref (ad 132)), (1, .int x1), (2, .int x2), (3, .int x3), (4, .int x4), (5, .int x5), (6, .int x6), (7, .int x7), (8, .int x8)]) hx hb dX8_thing_184 hl (k := 9) rfl rfl (by decide) rfl (fun ls hl => ?_)
      refine lv_goto (tgt := 51) hx hb dX8_thing_187 (by decide) ?_
      exact h _ _ _ _ _ _ _ _ _ _ _ _ _ _ _ _ C w (lv_sub hl [1, 2, 3, 4, 5, 6, 7, 8, 9, 0] rfl)
set_option maxHeartbeats 4000000 in
set_option maxRecDepth 100000 in
theorem b_X8_thing_0 (d : Nat) (x1 : Int32) (x2 : Int32) (σ : tk_S) (Q : Int32 → tk_S → Prop) (h : p_X8_feels d [aN 132] σ (fun σ2 => p_X8_isIn d [aI x1, aI 0, aI ((σ2.1 132 25) - 1)] σ2 (fun y5 σ4 => (y5 = 0 → Q (-1) σ4) ∧ (¬ y5 = 0 → p_X8_isIn d [aI x2, aI 0, aI 5] σ4 (fun y9 σ8 => (¬ y9 = 0 → g_X8_thing (d + 1) 51 [(0, aN 132), (1, aI x1), (2, aI x2), (3, aI 0), (4, aI 0), (5, aI 24), (6, aI 24), (7, aI 0), (8, aI 0), (9, aI 0)] σ8 Q) ∧ (y9 = 0 → Q (-1) σ8)))))) : g_X8_thing (d + 1) 0 [(0, aN 132), (1, aI x1), (2, aI x2)] σ Q := by
  intro p l e s m args below meth c D cy ad base H locs ls C w hl
  obtain ⟨hx, hb, hml, hown, hts, hr, hlk⟩ := id C
  have hl : lv_has ls 10 [(0, .ref (ad 132)), (1, .int x1), (2, .int x2)] := hl
  refine lv_aload_n hx hb dX8_thing_0 rfl (lv_at hl 0 rfl) ?_
  refine tk_cV C w (k := 132) rfl rfl (as := []) (rest := []) mw_746 mw_5 mw_743 mw_744 mw_745 hd_X8_feels (by decide) hl.1 (Nat.le_of_ble_eq_true rfl) rfl dX8_thing_1 h (fun r1 σ2 H locs hq w => ?_)
  obtain ⟨rfl, h⟩ := hq
  refine W.eq (g2 := F0 m 4 ls []) rfl ?_
  refine lv_iload_n hx hb dX8_thing_4 rfl (lv_at hl 1 rfl) ?_
  refine lv_iconst (v := 0) hx hb dX8_thing_5 (by decide) ?_
  refine lv_aload_n hx hb dX8_thing_6 rfl (lv_at hl 0 rfl) ?_
  refine tk_get (k := 132) (v := .int (σ2.1 132 25)) hx hb hts hown w rfl rfl inlX8 25 (by decide) mw_742 rfl dX8_thing_7 ?_
  refine lv_iconst (v := 1) hx hb dX8_thing_10 (by decide) ?_
  refine lv_isub hx hb dX8_thing_11 ?_
  refine tk_cS C w (as := [aI x1, aI 0, aI ((σ2.1 132 25) - 1)]) (rest := []) mw_140 mw_5 mw_138 mw_139 hd_X8_isIn (by decide) hl.1 (Nat.le_of_ble_eq_true rfl) rfl dX8_thing_12 h (fun r3 σ4 H locs hq w => ?_)
  obtain ⟨y5, rfl, h⟩ := hq
  refine W.eq (g2 := F0 m 15 ls [.int y5]) rfl ?_
  refine lv_if_eq (tgt := 27) hx hb dX8_thing_15 (by decide) (fun c6 => ?_) (fun c6 => ?_)
  · have h := h.1 c6
    refine lv_iconst (v := (-1)) hx hb dX8_thing_27 (by decide) ?_
    exact tk_reti C w dX8_thing_28 h
  · have h := h.2 c6
    refine lv_iload_n hx hb dX8_thing_18 rfl (lv_at hl 2 rfl) ?_
    refine lv_iconst (v := 0) hx hb dX8_thing_19 (by decide) ?_
    refine lv_iconst (v := 5) hx hb dX8_thing_20 (by decide) ?_
    refine tk_cS C w (as := [aI x2, aI 0, aI 5]) (rest := []) mw_140 mw_5 mw_138 mw_139 hd_X8_isIn (by decide) hl.1 (Nat.le_of_ble_eq_true rfl) rfl dX8_thing_21 h (fun r7 σ8 H locs hq w => ?_)
    obtain ⟨y9, rfl, h⟩ := hq
    refine W.eq (g2 := F0 m 24 ls [.int y9]) rfl ?_
    refine lv_if_ne (tgt := 29) hx hb dX8_thing_24 (by decide) (fun c10 => ?_) (fun c10 => ?_)
    · have h := h.1 c10
      refine lv_iconst (v := 0) hx hb dX8_thing_29 (by decide) ?_
      refine lv_istore_n (lv' := [(3, .int 0), (0, .ref (ad 132)), (1, .int x1), (2, .int x2)]) hx hb dX8_thing_30 rfl hl (by decide) rfl (fun ls hl => ?_)
      refine lv_iconst (v := 0) hx hb dX8_thing_31 (by decide) ?_
      refine lv_istore (lv' := [(4, .int 0), (3, .int 0), (0, .ref (ad 132)), (1, .int x1), (2, .int x2)]) hx hb dX8_thing_32 hl (by decide) rfl (fun ls hl => ?_)
      refine lv_bipush (v := 24) hx hb dX8_thing_34 (by decide) ?_
      refine lv_istore (lv' := [(5, .int 24), (4, .int 0), (3, .int 0), (0, .ref (ad 132)), (1, .int x1), (2, .int x2)]) hx hb dX8_thing_36 hl (by decide) rfl (fun ls hl => ?_)
      refine lv_bipush (v := 24) hx hb dX8_thing_38 (by decide) ?_
      refine lv_istore (lv' := [(6, .int 24), (5, .int 24), (4, .int 0), (3, .int 0), (0, .ref (ad 132)), (1, .int x1), (2, .int x2)]) hx hb dX8_thing_40 hl (by decide) rfl (fun ls hl => ?_)
      refine lv_iconst (v := 0) hx hb dX8_thing_42 (by decide) ?_
      refine lv_istore (lv' := [(7, .int 0), (6, .int 24), (5, .int 24), (4, .int 0), (3, .int 0), (0, .ref (ad 132)), (1, .int x1), (2, .int x2)]) hx hb dX8_thing_43 hl (by decide) rfl (fun ls hl => ?_)
      refine lv_iconst (v := 0) hx hb dX8_thing_45 (by decide) ?_
      refine lv_istore (lv' := [(8, .int 0), (7, .int 0), (6, .int 24), (5, .int 24), (4, .int 0), (3, .int 0), (0, .ref (ad 132)), (1, .int x1), (2, .int x2)]) hx hb dX8_thing_46 hl (by decide) rfl (fun ls hl => ?_)
      refine lv_iconst (v := 0) hx hb dX8_thing_48 (by decide) ?_
      refine lv_istore (lv' := [(9, .int 0), (8, .int 0), (7, .int 0), (6, .int 24), (5, .int 24), (4, .int 0), (3, .int 0), (0, .ref (ad 132)), (1, .int x1), (2, .int x2)]) hx hb dX8_thing_49 hl (by decide) rfl (fun ls hl => ?_)
      exact h _ _ _ _ _ _ _ _ _ _ _ _ _ _ _ _ C w (lv_sub hl [7, 8, 9, 6, 5, 4, 3, 2, 1, 0] rfl)
    · have h := h.2 c10
      refine lv_iconst (v := (-1)) hx hb dX8_thing_27 (by decide) ?_
      exact tk_reti C w dX8_thing_28 h
theorem e_X8_thing (d : Nat) (x1 : Int32) (x2 : Int32) {σ : tk_S} {Q : Int32 → tk_S → Prop} (h : g_X8_thing d 0 [(0, aN 132), (1, aI x1), (2, aI x2)] σ Q) : p_X8_thing d [aN 132, aI x1, aI x2] σ Q := tk_entry (by decide) rfl (fun _ => Nat.le_of_ble_eq_true rfl) (fun _ => rfl) h
