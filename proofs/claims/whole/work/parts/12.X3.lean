abbrev g_X3_begin (d pc : Nat) (vals : List (Nat × tk_V)) (σ : tk_S) (Q : tk_S → Prop) : Prop := tk_G RX3 cX3_begin 3 none d pc vals σ (tk_v Q)
set_option maxHeartbeats 4000000 in
set_option maxRecDepth 100000 in
theorem b_X3_begin_0 (d : Nat) (k0 : Nat) (h_0 : tk_sh k0 = tk_shape) (x1 : Int32) (x2 : Int32) (σ : tk_S) (Q : tk_S → Prop) (h : ∀ σ1 : tk_S, σ1 = tk_up (tk_up σ k0 0 x1) k0 1 x2 → Q (tk_up σ1 k0 2 0)) : g_X3_begin d 0 [(0, aN k0), (1, aI x1), (2, aI x2)] σ Q := by
  intro p l e s m args below meth c D cy ad base H locs ls C w hl
  obtain ⟨hx, hb, hml, hown, hts, hr, hlk⟩ := id C
  have hl : lv_has ls 3 [(0, .ref (ad k0)), (1, .int x1), (2, .int x2)] := hl
  refine lv_aload_n hx hb dX3_begin_0 rfl (lv_at hl 0 rfl) ?_
  refine lv_iload_n hx hb dX3_begin_1 rfl (lv_at hl 1 rfl) ?_
  refine tk_puti (k := k0) (ty := .int) hx hb hts hown w h_0 rfl inlX3 tyX3 tyX3_ok nmX3 0 (by decide) mw_154 rfl rfl (by decide +kernel) rfl rfl dX3_begin_2 (fun H locs w => ?_)
  refine lv_aload_n hx hb dX3_begin_5 rfl (lv_at hl 0 rfl) ?_
  refine lv_iload_n hx hb dX3_begin_6 rfl (lv_at hl 2 rfl) ?_
  refine tk_puti (k := k0) (ty := .int) hx hb hts hown w h_0 rfl inlX3 tyX3 tyX3_ok nmX3 1 (by decide) mw_155 rfl rfl (by decide +kernel) rfl rfl dX3_begin_7 (fun H locs w => ?_)
  generalize e_σ1 : tk_up (tk_up σ k0 0 x1) k0 1 x2 = σ1 at w
  have h := h σ1 e_σ1.symm
  refine lv_aload_n hx hb dX3_begin_10 rfl (lv_at hl 0 rfl) ?_
  refine lv_iconst (v := 0) hx hb dX3_begin_11 (by decide) ?_
  refine tk_puti (k := k0) (ty := .int) hx hb hts hown w h_0 rfl inlX3 tyX3 tyX3_ok nmX3 2 (by decide) mw_156 rfl rfl (by decide +kernel) rfl rfl dX3_begin_12 (fun H locs w => ?_)
  exact tk_retv C w dX3_begin_15 h
theorem e_X3_begin (d : Nat) (k0 : Nat) (x1 : Int32) (x2 : Int32) {σ : tk_S} {Q : tk_S → Prop} (h : g_X3_begin d 0 [(0, aN k0), (1, aI x1), (2, aI x2)] σ Q) : p_X3_begin d [aN k0, aI x1, aI x2] σ Q := tk_entry (by decide) rfl (fun _ => Nat.le_of_ble_eq_true rfl) (fun _ => rfl) h
abbrev g_X3_addPlace (d pc : Nat) (vals : List (Nat × tk_V)) (σ : tk_S) (Q : tk_S → Prop) : Prop := tk_G RX3 cX3_addPlace 3 none d pc vals σ (tk_v Q)
set_option maxHeartbeats 4000000 in
set_option maxRecDepth 100000 in
theorem b_X3_addPlace_0 (d : Nat) (k0 : Nat) (h_0 : tk_sh k0 = tk_shape) (x1 : Int32) (x2 : Int32) (σ : tk_S) (Q : tk_S → Prop) (h : (8 ≤ (σ.1 k0 2) → Q σ) ∧ (¬ 8 ≤ (σ.1 k0 2) → vp_in (σ.1 k0 2) 8 ∧ (vp_in ((tk_up σ (k0 + 1) (Int32.toNatClampNeg (σ.1 k0 2)) x1).1 k0 2) 8 ∧ (∀ σ4 : tk_S, σ4 = tk_up (tk_up σ (k0 + 1) (Int32.toNatClampNeg (σ.1 k0 2)) x1) (k0 + 2) (Int32.toNatClampNeg ((tk_up σ (k0 + 1) (Int32.toNatClampNeg (σ.1 k0 2)) x1).1 k0 2)) x2 → Q (tk_up σ4 k0 2 ((σ4.1 k0 2) + 1)))))) : g_X3_addPlace d 0 [(0, aN k0), (1, aI x1), (2, aI x2)] σ Q := by
  intro p l e s m args below meth c D cy ad base H locs ls C w hl
  obtain ⟨hx, hb, hml, hown, hts, hr, hlk⟩ := id C
  have hl : lv_has ls 3 [(0, .ref (ad k0)), (1, .int x1), (2, .int x2)] := hl
  refine lv_aload_n hx hb dX3_addPlace_0 rfl (lv_at hl 0 rfl) ?_
  refine tk_get (k := k0) (v := .int (σ.1 k0 2)) hx hb hts hown w h_0 rfl inlX3 2 (by decide) mw_156 rfl dX3_addPlace_1 ?_
  refine lv_bipush (v := 8) hx hb dX3_addPlace_4 (by decide) ?_
  refine lv_icmp_ge (tgt := 39) hx hb dX3_addPlace_6 (by decide) (fun c1 => ?_) (fun c1 => ?_)
  · have h := h.1 c1
    exact tk_retv C w dX3_addPlace_39 h
  · have h := h.2 c1
    refine lv_aload_n hx hb dX3_addPlace_9 rfl (lv_at hl 0 rfl) ?_
    refine tk_get (k := k0) (v := .ref (ad (k0 + 1))) hx hb hts hown w h_0 rfl inlX3 3 (by decide) mw_92 rfl dX3_addPlace_10 ?_
    refine lv_aload_n hx hb dX3_addPlace_13 rfl (lv_at hl 0 rfl) ?_
    refine tk_get (k := k0) (v := .int (σ.1 k0 2)) hx hb hts hown w h_0 rfl inlX3 2 (by decide) mw_156 rfl dX3_addPlace_14 ?_
    refine lv_iload_n hx hb dX3_addPlace_17 rfl (lv_at hl 1 rfl) ?_
    obtain ⟨hi2, h⟩ := h
    refine tk_iast (k := k0 + 1) hx hb w (tk_s1 h_0) hi2 dX3_addPlace_18 (fun H locs w => ?_)
    refine lv_aload_n hx hb dX3_addPlace_19 rfl (lv_at hl 0 rfl) ?_
    refine tk_get (k := k0) (v := .ref (ad (k0 + 2))) hx hb hts hown w h_0 rfl inlX3 4 (by decide) mw_93 rfl dX3_addPlace_20 ?_
    refine lv_aload_n hx hb dX3_addPlace_23 rfl (lv_at hl 0 rfl) ?_
    refine tk_get (k := k0) (v := .int ((tk_up σ (k0 + 1) (Int32.toNatClampNeg (σ.1 k0 2)) x1).1 k0 2)) hx hb hts hown w h_0 rfl inlX3 2 (by decide) mw_156 rfl dX3_addPlace_24 ?_
    refine lv_iload_n hx hb dX3_addPlace_27 rfl (lv_at hl 2 rfl) ?_
    obtain ⟨hi3, h⟩ := h
    refine tk_iast (k := k0 + 2) hx hb w (tk_s2 h_0) hi3 dX3_addPlace_28 (fun H locs w => ?_)
    generalize e_σ4 : tk_up (tk_up σ (k0 + 1) (Int32.toNatClampNeg (σ.1 k0 2)) x1) (k0 + 2) (Int32.toNatClampNeg ((tk_up σ (k0 + 1) (Int32.toNatClampNeg (σ.1 k0 2)) x1).1 k0 2)) x2 = σ4 at w
    have h := h σ4 e_σ4.symm
    refine lv_aload_n hx hb dX3_addPlace_29 rfl (lv_at hl 0 rfl) ?_
    refine lv_dup hx hb dX3_addPlace_30 rfl ?_
    refine tk_get (k := k0) (v := .int (σ4.1 k0 2)) hx hb hts hown w h_0 rfl inlX3 2 (by decide) mw_156 rfl dX3_addPlace_31 ?_
    refine lv_iconst (v := 1) hx hb dX3_addPlace_34 (by decide) ?_
    refine lv_iadd hx hb dX3_addPlace_35 ?_
    refine tk_puti (k := k0) (ty := .int) hx hb hts hown w h_0 rfl inlX3 tyX3 tyX3_ok nmX3 2 (by decide) mw_156 rfl rfl (by decide +kernel) rfl rfl dX3_addPlace_36 (fun H locs w => ?_)
    exact tk_retv C w dX3_addPlace_39 h
theorem e_X3_addPlace (d : Nat) (k0 : Nat) (x1 : Int32) (x2 : Int32) {σ : tk_S} {Q : tk_S → Prop} (h : g_X3_addPlace d 0 [(0, aN k0), (1, aI x1), (2, aI x2)] σ Q) : p_X3_addPlace d [aN k0, aI x1, aI x2] σ Q := tk_entry (by decide) rfl (fun _ => Nat.le_of_ble_eq_true rfl) (fun _ => rfl) h
abbrev g_X3_keepPlaces (d pc : Nat) (vals : List (Nat × tk_V)) (σ : tk_S) (Q : tk_S → Prop) : Prop := tk_G RX3 cX3_keepPlaces 4 none d pc vals σ (tk_v Q)
set_option maxHeartbeats 4000000 in
set_option maxRecDepth 100000 in
theorem b_X3_keepPlaces_12 (d : Nat) (k0 : Nat) (h_0 : tk_sh k0 = tk_shape) (x1 : Int32) (x2 : Int32) (x3 : Int32) (σ : tk_S) (Q : tk_S → Prop) (h : (x2 ≤ x3 → Q σ) ∧ (¬ x2 ≤ x3 → p_X7_has d [aI x1, aI x3] σ (fun y4 σ3 => (y4 = 0 → g_X3_keepPlaces (d + 1) 12 [(0, aN k0), (1, aI x1), (2, aI x2), (3, aI (x3 + 1))] σ3 Q) ∧ (¬ y4 = 0 → vp_in x3 8 ∧ (vp_in x3 8 ∧ (p_X3_addPlace d [aN k0, aI (σ3.1 (k0 + 1) (Int32.toNatClampNeg x3)), aI (σ3.1 (k0 + 2) (Int32.toNatClampNeg x3))] σ3 (fun σ9 => g_X3_keepPlaces (d + 1) 12 [(0, aN k0), (1, aI x1), (2, aI x2), (3, aI (x3 + 1))] σ9 Q))))))) : g_X3_keepPlaces (d + 1) 12 [(0, aN k0), (1, aI x1), (2, aI x2), (3, aI x3)] σ Q := by
  intro p l e s m args below meth c D cy ad base H locs ls C w hl
  obtain ⟨hx, hb, hml, hown, hts, hr, hlk⟩ := id C
  have hl : lv_has ls 4 [(0, .ref (ad k0)), (1, .int x1), (2, .int x2), (3, .int x3)] := hl
  refine lv_iload_n hx hb dX3_keepPlaces_12 rfl (lv_at hl 3 rfl) ?_
  refine lv_iload_n hx hb dX3_keepPlaces_13 rfl (lv_at hl 2 rfl) ?_
  refine lv_icmp_ge (tgt := 47) hx hb dX3_keepPlaces_14 (by decide) (fun c1 => ?_) (fun c1 => ?_)
  · have h := h.1 c1
    exact tk_retv C w dX3_keepPlaces_47 h
  · have h := h.2 c1
    refine lv_iload_n hx hb dX3_keepPlaces_17 rfl (lv_at hl 1 rfl) ?_
    refine lv_iload_n hx hb dX3_keepPlaces_18 rfl (lv_at hl 3 rfl) ?_
    refine tk_cSN C w (as := [aI x1, aI x3]) (rest := []) mw_216 mw_2 (List.mem_of_getElem? (i := 10) rfl) mw_215 hd_X7_has (by decide) hl.1 (Nat.le_of_ble_eq_true rfl) rfl dX3_keepPlaces_19 h (fun r2 σ3 H locs hq w => ?_)
    obtain ⟨y4, rfl, h⟩ := hq
    refine W.eq (g2 := F0 m 22 ls [.int y4]) rfl ?_
    refine lv_if_eq (tgt := 41) hx hb dX3_keepPlaces_22 (by decide) (fun c5 => ?_) (fun c5 => ?_)
    · have h := h.1 c5
      refine lv_iinc (v := x3 + 1) (lv' := [(3, .int (x3 + 1)), (0, .ref (ad k0)), (1, .int x1), (2, .int x2)]) hx hb dX3_keepPlaces_41 hl (k := 3) rfl rfl (by decide) rfl (fun ls hl => ?_)
      refine lv_goto (tgt := 12) hx hb dX3_keepPlaces_44 (by decide) ?_
      exact h _ _ _ _ _ _ _ _ _ _ _ _ _ _ _ _ C w (lv_sub hl [1, 2, 3, 0] rfl)
    · have h := h.2 c5
      refine lv_aload_n hx hb dX3_keepPlaces_25 rfl (lv_at hl 0 rfl) ?_
      refine lv_aload_n hx hb dX3_keepPlaces_26 rfl (lv_at hl 0 rfl) ?_
      refine tk_get (k := k0) (v := .ref (ad (k0 + 1))) hx hb hts hown w h_0 rfl inlX3 3 (by decide) mw_92 rfl dX3_keepPlaces_27 ?_
      refine lv_iload_n hx hb dX3_keepPlaces_30 rfl (lv_at hl 3 rfl) ?_
      obtain ⟨hi6, h⟩ := h
      refine tk_iald (k := k0 + 1) hx hb w (tk_s1 h_0) hi6 dX3_keepPlaces_31 ?_
      refine lv_aload_n hx hb dX3_keepPlaces_32 rfl (lv_at hl 0 rfl) ?_
      refine tk_get (k := k0) (v := .ref (ad (k0 + 2))) hx hb hts hown w h_0 rfl inlX3 4 (by decide) mw_93 rfl dX3_keepPlaces_33 ?_
      refine lv_iload_n hx hb dX3_keepPlaces_36 rfl (lv_at hl 3 rfl) ?_
      obtain ⟨hi7, h⟩ := h
      refine tk_iald (k := k0 + 2) hx hb w (tk_s2 h_0) hi7 dX3_keepPlaces_37 ?_
      refine tk_cV C w (k := k0) h_0 rfl (as := [aI (σ3.1 (k0 + 1) (Int32.toNatClampNeg x3)), aI (σ3.1 (k0 + 2) (Int32.toNatClampNeg x3))]) (rest := []) mw_160 mw_48 mw_465 mw_158 mw_159 hd_X3_addPlace (by decide) hl.1 (Nat.le_of_ble_eq_true rfl) rfl dX3_keepPlaces_38 h (fun r8 σ9 H locs hq w => ?_)
      obtain ⟨rfl, h⟩ := hq
      refine W.eq (g2 := F0 m 41 ls []) rfl ?_
      refine lv_iinc (v := x3 + 1) (lv' := [(3, .int (x3 + 1)), (0, .ref (ad k0)), (1, .int x1), (2, .int x2)]) hx hb dX3_keepPlaces_41 hl (k := 3) rfl rfl (by decide) rfl (fun ls hl => ?_)
      refine lv_goto (tgt := 12) hx hb dX3_keepPlaces_44 (by decide) ?_
      exact h _ _ _ _ _ _ _ _ _ _ _ _ _ _ _ _ C w (lv_sub hl [1, 2, 3, 0] rfl)
set_option maxHeartbeats 4000000 in
set_option maxRecDepth 100000 in
theorem b_X3_keepPlaces_0 (d : Nat) (k0 : Nat) (h_0 : tk_sh k0 = tk_shape) (x1 : Int32) (σ : tk_S) (Q : tk_S → Prop) (h : ∀ z1 : Int32, z1 = σ.1 k0 2 → (g_X3_keepPlaces (d + 1) 12 [(0, aN k0), (1, aI x1), (2, aI z1), (3, aI 0)] (tk_up σ k0 2 0) Q)) : g_X3_keepPlaces (d + 1) 0 [(0, aN k0), (1, aI x1)] σ Q := by
  intro p l e s m args below meth c D cy ad base H locs ls C w hl
  obtain ⟨hx, hb, hml, hown, hts, hr, hlk⟩ := id C
  have hl : lv_has ls 4 [(0, .ref (ad k0)), (1, .int x1)] := hl
  refine lv_aload_n hx hb dX3_keepPlaces_0 rfl (lv_at hl 0 rfl) ?_
  refine tk_get (k := k0) (v := .int (σ.1 k0 2)) hx hb hts hown w h_0 rfl inlX3 2 (by decide) mw_156 rfl dX3_keepPlaces_1 ?_
  refine lv_topi (fun z1 e_z1 => ?_)
  have h := h z1 e_z1
  refine lv_istore_n (lv' := [(2, .int z1), (0, .ref (ad k0)), (1, .int x1)]) hx hb dX3_keepPlaces_4 rfl hl (by decide) rfl (fun ls hl => ?_)
  refine lv_aload_n hx hb dX3_keepPlaces_5 rfl (lv_at hl 1 rfl) ?_
  refine lv_iconst (v := 0) hx hb dX3_keepPlaces_6 (by decide) ?_
  refine tk_puti (k := k0) (ty := .int) hx hb hts hown w h_0 rfl inlX3 tyX3 tyX3_ok nmX3 2 (by decide) mw_156 rfl rfl (by decide +kernel) rfl rfl dX3_keepPlaces_7 (fun H locs w => ?_)
  refine lv_iconst (v := 0) hx hb dX3_keepPlaces_10 (by decide) ?_
  refine lv_istore_n (lv' := [(3, .int 0), (2, .int z1), (0, .ref (ad k0)), (1, .int x1)]) hx hb dX3_keepPlaces_11 rfl hl (by decide) rfl (fun ls hl => ?_)
  exact h _ _ _ _ _ _ _ _ _ _ _ _ _ _ _ _ C w (lv_sub hl [2, 3, 1, 0] rfl)
theorem e_X3_keepPlaces (d : Nat) (k0 : Nat) (x1 : Int32) {σ : tk_S} {Q : tk_S → Prop} (h : g_X3_keepPlaces d 0 [(0, aN k0), (1, aI x1)] σ Q) : p_X3_keepPlaces d [aN k0, aI x1] σ Q := tk_entry (by decide) rfl (fun _ => Nat.le_of_ble_eq_true rfl) (fun _ => rfl) h
abbrev g_X3_coordinate (d pc : Nat) (vals : List (Nat × tk_V)) (σ : tk_S) (Q : Int32 → tk_S → Prop) : Prop := tk_G RX3 cX3_coordinate 3 (some .int) d pc vals σ (tk_i Q)
set_option maxHeartbeats 4000000 in
set_option maxRecDepth 100000 in
theorem b_X3_coordinate_0 (d : Nat) (k0 : Nat) (h_0 : tk_sh k0 = tk_shape) (x1 : Int32) (σ : tk_S) (Q : Int32 → tk_S → Prop) (h : ∀ z1 : Int32, z1 = x1 / 2 → ((x1 < 0 → Q (-1) σ) ∧ (¬ x1 < 0 → (z1 < (σ.1 k0 2) → (¬ (x1 - x1 / 2 * 2) = 0 → vp_in z1 8 ∧ (Q (σ.1 (k0 + 2) (Int32.toNatClampNeg z1)) σ)) ∧ ((x1 - x1 / 2 * 2) = 0 → vp_in z1 8 ∧ (Q (σ.1 (k0 + 1) (Int32.toNatClampNeg z1)) σ))) ∧ (¬ z1 < (σ.1 k0 2) → Q (-1) σ)))) : g_X3_coordinate d 0 [(0, aN k0), (1, aI x1)] σ Q := by
  intro p l e s m args below meth c D cy ad base H locs ls C w hl
  obtain ⟨hx, hb, hml, hown, hts, hr, hlk⟩ := id C
  have hl : lv_has ls 3 [(0, .ref (ad k0)), (1, .int x1)] := hl
  refine lv_iload_n hx hb dX3_coordinate_0 rfl (lv_at hl 1 rfl) ?_
  refine lv_iconst (v := 2) hx hb dX3_coordinate_1 (by decide) ?_
  refine lv_idiv hx hb dX3_coordinate_2 (by decide) ?_
  refine lv_topi (fun z1 e_z1 => ?_)
  have h := h z1 e_z1
  refine lv_istore_n (lv' := [(2, .int z1), (0, .ref (ad k0)), (1, .int x1)]) hx hb dX3_coordinate_3 rfl hl (by decide) rfl (fun ls hl => ?_)
  refine lv_iload_n hx hb dX3_coordinate_4 rfl (lv_at hl 2 rfl) ?_
  refine lv_if_lt (tgt := 16) hx hb dX3_coordinate_5 (by decide) (fun c2 => ?_) (fun c2 => ?_)
  · have h := h.1 c2
    refine lv_iconst (v := (-1)) hx hb dX3_coordinate_16 (by decide) ?_
    exact tk_reti C w dX3_coordinate_17 h
  · have h := h.2 c2
    refine lv_iload_n hx hb dX3_coordinate_8 rfl (lv_at hl 0 rfl) ?_
    refine lv_aload_n hx hb dX3_coordinate_9 rfl (lv_at hl 1 rfl) ?_
    refine tk_get (k := k0) (v := .int (σ.1 k0 2)) hx hb hts hown w h_0 rfl inlX3 2 (by decide) mw_156 rfl dX3_coordinate_10 ?_
    refine lv_icmp_lt (tgt := 18) hx hb dX3_coordinate_13 (by decide) (fun c3 => ?_) (fun c3 => ?_)
    · have h := h.1 c3
      refine lv_iload_n hx hb dX3_coordinate_18 rfl (lv_at hl 2 rfl) ?_
      refine lv_iconst (v := 2) hx hb dX3_coordinate_19 (by decide) ?_
      refine lv_irem hx hb dX3_coordinate_20 (by decide) ?_
      refine lv_if_ne (tgt := 33) hx hb dX3_coordinate_21 (by decide) (fun c4 => ?_) (fun c4 => ?_)
      · have h := h.1 c4
        refine lv_aload_n hx hb dX3_coordinate_33 rfl (lv_at hl 1 rfl) ?_
        refine tk_get (k := k0) (v := .ref (ad (k0 + 2))) hx hb hts hown w h_0 rfl inlX3 4 (by decide) mw_93 rfl dX3_coordinate_34 ?_
        refine lv_iload_n hx hb dX3_coordinate_37 rfl (lv_at hl 0 rfl) ?_
        obtain ⟨hi5, h⟩ := h
        refine tk_iald (k := k0 + 2) hx hb w (tk_s2 h_0) hi5 dX3_coordinate_38 ?_
        exact tk_reti C w dX3_coordinate_39 h
      · have h := h.2 c4
        refine lv_aload_n hx hb dX3_coordinate_24 rfl (lv_at hl 1 rfl) ?_
        refine tk_get (k := k0) (v := .ref (ad (k0 + 1))) hx hb hts hown w h_0 rfl inlX3 3 (by decide) mw_92 rfl dX3_coordinate_25 ?_
        refine lv_iload_n hx hb dX3_coordinate_28 rfl (lv_at hl 0 rfl) ?_
        obtain ⟨hi6, h⟩ := h
        refine tk_iald (k := k0 + 1) hx hb w (tk_s1 h_0) hi6 dX3_coordinate_29 ?_
        refine lv_goto (tgt := 39) hx hb dX3_coordinate_30 (by decide) ?_
        exact tk_reti C w dX3_coordinate_39 h
    · have h := h.2 c3
      refine lv_iconst (v := (-1)) hx hb dX3_coordinate_16 (by decide) ?_
      exact tk_reti C w dX3_coordinate_17 h
theorem e_X3_coordinate (d : Nat) (k0 : Nat) (x1 : Int32) {σ : tk_S} {Q : Int32 → tk_S → Prop} (h : g_X3_coordinate d 0 [(0, aN k0), (1, aI x1)] σ Q) : p_X3_coordinate d [aN k0, aI x1] σ Q := tk_entry (by decide) rfl (fun _ => Nat.le_of_ble_eq_true rfl) (fun _ => rfl) h
abbrev g_X3_draw (d pc : Nat) (vals : List (Nat × tk_V)) (σ : tk_S) (Q : tk_S → Prop) : Prop := tk_G RX3 cX3_draw 1 none d pc vals σ (tk_v Q)
set_option maxHeartbeats 4000000 in
set_option maxRecDepth 100000 in
theorem b_X3_draw_0 (d : Nat) (k0 : Nat) (h_0 : tk_sh k0 = tk_shape) (σ : tk_S) (Q : tk_S → Prop) (h : p_X2_clear d [aN (k0 + 3)] σ (fun σ2 => (¬ (σ2.1 k0 0) = 0 → (¬ (σ2.1 k0 0) = 1 → p_X3_drawMark d [aN k0] σ2 (fun σ6 => Q σ6)) ∧ ((σ2.1 k0 0) = 1 → p_X3_drawGround d [aN k0] σ2 (fun σ8 => Q σ8))) ∧ ((σ2.1 k0 0) = 0 → p_X3_drawLine d [aN k0] σ2 (fun σ10 => Q σ10)))) : g_X3_draw (d + 1) 0 [(0, aN k0)] σ Q := by
  intro p l e s m args below meth c D cy ad base H locs ls C w hl
  obtain ⟨hx, hb, hml, hown, hts, hr, hlk⟩ := id C
  have hl : lv_has ls 1 [(0, .ref (ad k0))] := hl
  refine lv_aload_n hx hb dX3_draw_0 rfl (lv_at hl 0 rfl) ?_
  refine tk_get (k := k0) (v := .ref (ad (k0 + 3))) hx hb hts hown w h_0 rfl inlX3 5 (by decide) mw_95 rfl dX3_draw_1 ?_
  refine tk_cV C w (k := k0 + 3) (tk_s3 h_0) rfl (as := []) (rest := []) mw_172 mw_23 mw_169 mw_170 mw_171 hd_X2_clear (by decide) hl.1 (Nat.le_of_ble_eq_true rfl) rfl dX3_draw_4 h (fun r1 σ2 H locs hq w => ?_)
  obtain ⟨rfl, h⟩ := hq
  refine W.eq (g2 := F0 m 7 ls []) rfl ?_
  refine lv_aload_n hx hb dX3_draw_7 rfl (lv_at hl 0 rfl) ?_
  refine tk_get (k := k0) (v := .int (σ2.1 k0 0)) hx hb hts hown w h_0 rfl inlX3 0 (by decide) mw_154 rfl dX3_draw_8 ?_
  refine lv_if_ne (tgt := 21) hx hb dX3_draw_11 (by decide) (fun c3 => ?_) (fun c3 => ?_)
  · have h := h.1 c3
    refine lv_aload_n hx hb dX3_draw_21 rfl (lv_at hl 0 rfl) ?_
    refine tk_get (k := k0) (v := .int (σ2.1 k0 0)) hx hb hts hown w h_0 rfl inlX3 0 (by decide) mw_154 rfl dX3_draw_22 ?_
    refine lv_iconst (v := 1) hx hb dX3_draw_25 (by decide) ?_
    refine lv_icmp_ne (tgt := 36) hx hb dX3_draw_26 (by decide) (fun c4 => ?_) (fun c4 => ?_)
    · have h := h.1 c4
      refine lv_aload_n hx hb dX3_draw_36 rfl (lv_at hl 0 rfl) ?_
      refine tk_cV C w (k := k0) h_0 rfl (as := []) (rest := []) mw_204 mw_48 mw_201 mw_202 mw_203 hd_X3_drawMark (by decide) hl.1 (Nat.le_of_ble_eq_true rfl) rfl dX3_draw_37 h (fun r5 σ6 H locs hq w => ?_)
      obtain ⟨rfl, h⟩ := hq
      refine W.eq (g2 := F0 m 40 ls []) rfl ?_
      exact tk_retv C w dX3_draw_40 h
    · have h := h.2 c4
      refine lv_aload_n hx hb dX3_draw_29 rfl (lv_at hl 0 rfl) ?_
      refine tk_cV C w (k := k0) h_0 rfl (as := []) (rest := []) mw_199 mw_48 mw_196 mw_197 mw_198 hd_X3_drawGround (by decide) hl.1 (Nat.le_of_ble_eq_true rfl) rfl dX3_draw_30 h (fun r7 σ8 H locs hq w => ?_)
      obtain ⟨rfl, h⟩ := hq
      refine W.eq (g2 := F0 m 33 ls []) rfl ?_
      refine lv_goto (tgt := 40) hx hb dX3_draw_33 (by decide) ?_
      exact tk_retv C w dX3_draw_40 h
  · have h := h.2 c3
    refine lv_aload_n hx hb dX3_draw_14 rfl (lv_at hl 0 rfl) ?_
    refine tk_cV C w (k := k0) h_0 rfl (as := []) (rest := []) mw_176 mw_48 mw_173 mw_174 mw_175 hd_X3_drawLine (by decide) hl.1 (Nat.le_of_ble_eq_true rfl) rfl dX3_draw_15 h (fun r9 σ10 H locs hq w => ?_)
    obtain ⟨rfl, h⟩ := hq
    refine W.eq (g2 := F0 m 18 ls []) rfl ?_
    refine lv_goto (tgt := 40) hx hb dX3_draw_18 (by decide) ?_
    exact tk_retv C w dX3_draw_40 h
theorem e_X3_draw (d : Nat) (k0 : Nat) {σ : tk_S} {Q : tk_S → Prop} (h : g_X3_draw d 0 [(0, aN k0)] σ Q) : p_X3_draw d [aN k0] σ Q := tk_entry (by decide) rfl (fun _ => Nat.le_of_ble_eq_true rfl) (fun _ => rfl) h
abbrev g_X3_drawLine (d pc : Nat) (vals : List (Nat × tk_V)) (σ : tk_S) (Q : tk_S → Prop) : Prop := tk_G RX3 cX3_drawLine 2 none d pc vals σ (tk_v Q)
set_option maxHeartbeats 4000000 in
set_option maxRecDepth 100000 in
theorem b_X3_drawLine_21 (d : Nat) (k0 : Nat) (h_0 : tk_sh k0 = tk_shape) (x1 : Int32) (σ : tk_S) (Q : tk_S → Prop) (h : ((σ.1 k0 2) ≤ x1 → Q σ) ∧ (¬ (σ.1 k0 2) ≤ x1 → vp_in (x1 - 1) 8 ∧ (vp_in (x1 - 1) 8 ∧ (vp_in x1 8 ∧ (vp_in x1 8 ∧ (p_X3_drawStep d [aN k0, aI (σ.1 (k0 + 1) (Int32.toNatClampNeg (x1 - 1))), aI (σ.1 (k0 + 2) (Int32.toNatClampNeg (x1 - 1))), aI (σ.1 (k0 + 1) (Int32.toNatClampNeg x1)), aI (σ.1 (k0 + 2) (Int32.toNatClampNeg x1))] σ (fun σ7 => g_X3_drawLine (d + 1) 21 [(0, aN k0), (1, aI (x1 + 1))] σ7 Q))))))) : g_X3_drawLine (d + 1) 21 [(0, aN k0), (1, aI x1)] σ Q := by
  intro p l e s m args below meth c D cy ad base H locs ls C w hl
  obtain ⟨hx, hb, hml, hown, hts, hr, hlk⟩ := id C
  have hl : lv_has ls 2 [(0, .ref (ad k0)), (1, .int x1)] := hl
  refine lv_iload_n hx hb dX3_drawLine_21 rfl (lv_at hl 1 rfl) ?_
  refine lv_aload_n hx hb dX3_drawLine_22 rfl (lv_at hl 0 rfl) ?_
  refine tk_get (k := k0) (v := .int (σ.1 k0 2)) hx hb hts hown w h_0 rfl inlX3 2 (by decide) mw_156 rfl dX3_drawLine_23 ?_
  refine lv_icmp_ge (tgt := 67) hx hb dX3_drawLine_26 (by decide) (fun c1 => ?_) (fun c1 => ?_)
  · have h := h.1 c1
    exact tk_retv C w dX3_drawLine_67 h
  · have h := h.2 c1
    refine lv_aload_n hx hb dX3_drawLine_29 rfl (lv_at hl 0 rfl) ?_
    refine lv_aload_n hx hb dX3_drawLine_30 rfl (lv_at hl 0 rfl) ?_
    refine tk_get (k := k0) (v := .ref (ad (k0 + 1))) hx hb hts hown w h_0 rfl inlX3 3 (by decide) mw_92 rfl dX3_drawLine_31 ?_
    refine lv_iload_n hx hb dX3_drawLine_34 rfl (lv_at hl 1 rfl) ?_
    refine lv_iconst (v := 1) hx hb dX3_drawLine_35 (by decide) ?_
    refine lv_isub hx hb dX3_drawLine_36 ?_
    obtain ⟨hi2, h⟩ := h
    refine tk_iald (k := k0 + 1) hx hb w (tk_s1 h_0) hi2 dX3_drawLine_37 ?_
    refine lv_aload_n hx hb dX3_drawLine_38 rfl (lv_at hl 0 rfl) ?_
    refine tk_get (k := k0) (v := .ref (ad (k0 + 2))) hx hb hts hown w h_0 rfl inlX3 4 (by decide) mw_93 rfl dX3_drawLine_39 ?_
    refine lv_iload_n hx hb dX3_drawLine_42 rfl (lv_at hl 1 rfl) ?_
    refine lv_iconst (v := 1) hx hb dX3_drawLine_43 (by decide) ?_
    refine lv_isub hx hb dX3_drawLine_44 ?_
    obtain ⟨hi3, h⟩ := h
    refine tk_iald (k := k0 + 2) hx hb w (tk_s2 h_0) hi3 dX3_drawLine_45 ?_
    refine lv_aload_n hx hb dX3_drawLine_46 rfl (lv_at hl 0 rfl) ?_
    refine tk_get (k := k0) (v := .ref (ad (k0 + 1))) hx hb hts hown w h_0 rfl inlX3 3 (by decide) mw_92 rfl dX3_drawLine_47 ?_
    refine lv_iload_n hx hb dX3_drawLine_50 rfl (lv_at hl 1 rfl) ?_
    obtain ⟨hi4, h⟩ := h
    refine tk_iald (k := k0 + 1) hx hb w (tk_s1 h_0) hi4 dX3_drawLine_51 ?_
    refine lv_aload_n hx hb dX3_drawLine_52 rfl (lv_at hl 0 rfl) ?_
    refine tk_get (k := k0) (v := .ref (ad (k0 + 2))) hx hb hts hown w h_0 rfl inlX3 4 (by decide) mw_93 rfl dX3_drawLine_53 ?_
    refine lv_iload_n hx hb dX3_drawLine_56 rfl (lv_at hl 1 rfl) ?_
    obtain ⟨hi5, h⟩ := h
    refine tk_iald (k := k0 + 2) hx hb w (tk_s2 h_0) hi5 dX3_drawLine_57 ?_
    refine tk_cV C w (k := k0) h_0 rfl (as := [aI (σ.1 (k0 + 1) (Int32.toNatClampNeg (x1 - 1))), aI (σ.1 (k0 + 2) (Int32.toNatClampNeg (x1 - 1))), aI (σ.1 (k0 + 1) (Int32.toNatClampNeg x1)), aI (σ.1 (k0 + 2) (Int32.toNatClampNeg x1))]) (rest := []) mw_184 mw_48 mw_181 mw_182 mw_183 hd_X3_drawStep (by decide) hl.1 (Nat.le_of_ble_eq_true rfl) rfl dX3_drawLine_58 h (fun r6 σ7 H locs hq w => ?_)
    obtain ⟨rfl, h⟩ := hq
    refine W.eq (g2 := F0 m 61 ls []) rfl ?_
    refine lv_iinc (v := x1 + 1) (lv' := [(1, .int (x1 + 1)), (0, .ref (ad k0))]) hx hb dX3_drawLine_61 hl (k := 1) rfl rfl (by decide) rfl (fun ls hl => ?_)
    refine lv_goto (tgt := 21) hx hb dX3_drawLine_64 (by decide) ?_
    exact h _ _ _ _ _ _ _ _ _ _ _ _ _ _ _ _ C w (lv_sub hl [1, 0] rfl)
set_option maxHeartbeats 4000000 in
set_option maxRecDepth 100000 in
theorem b_X3_drawLine_0 (d : Nat) (k0 : Nat) (h_0 : tk_sh k0 = tk_shape) (σ : tk_S) (Q : tk_S → Prop) (h : p_X2_raise d [aN (k0 + 3), aI (σ.1 (k0 + 1) (Int32.toNatClampNeg 0)), aI (σ.1 (k0 + 2) (Int32.toNatClampNeg 0))] σ (fun σ2 => g_X3_drawLine (d + 1) 21 [(0, aN k0), (1, aI 1)] σ2 Q)) : g_X3_drawLine (d + 1) 0 [(0, aN k0)] σ Q := by
  intro p l e s m args below meth c D cy ad base H locs ls C w hl
  obtain ⟨hx, hb, hml, hown, hts, hr, hlk⟩ := id C
  have hl : lv_has ls 2 [(0, .ref (ad k0))] := hl
  refine lv_aload_n hx hb dX3_drawLine_0 rfl (lv_at hl 0 rfl) ?_
  refine tk_get (k := k0) (v := .ref (ad (k0 + 3))) hx hb hts hown w h_0 rfl inlX3 5 (by decide) mw_95 rfl dX3_drawLine_1 ?_
  refine lv_aload_n hx hb dX3_drawLine_4 rfl (lv_at hl 0 rfl) ?_
  refine tk_get (k := k0) (v := .ref (ad (k0 + 1))) hx hb hts hown w h_0 rfl inlX3 3 (by decide) mw_92 rfl dX3_drawLine_5 ?_
  refine lv_iconst (v := 0) hx hb dX3_drawLine_8 (by decide) ?_
  refine tk_iald (k := k0 + 1) hx hb w (tk_s1 h_0) (by unfold vp_in; decide) dX3_drawLine_9 ?_
  refine lv_aload_n hx hb dX3_drawLine_10 rfl (lv_at hl 0 rfl) ?_
  refine tk_get (k := k0) (v := .ref (ad (k0 + 2))) hx hb hts hown w h_0 rfl inlX3 4 (by decide) mw_93 rfl dX3_drawLine_11 ?_
  refine lv_iconst (v := 0) hx hb dX3_drawLine_14 (by decide) ?_
  refine tk_iald (k := k0 + 2) hx hb w (tk_s2 h_0) (by unfold vp_in; decide) dX3_drawLine_15 ?_
  refine tk_cV C w (k := k0 + 3) (tk_s3 h_0) rfl (as := [aI (σ.1 (k0 + 1) (Int32.toNatClampNeg 0)), aI (σ.1 (k0 + 2) (Int32.toNatClampNeg 0))]) (rest := []) mw_180 mw_23 mw_177 mw_178 mw_179 hd_X2_raise (by decide) hl.1 (Nat.le_of_ble_eq_true rfl) rfl dX3_drawLine_16 h (fun r1 σ2 H locs hq w => ?_)
  obtain ⟨rfl, h⟩ := hq
  refine W.eq (g2 := F0 m 19 ls []) rfl ?_
  refine lv_iconst (v := 1) hx hb dX3_drawLine_19 (by decide) ?_
  refine lv_istore_n (lv' := [(1, .int 1), (0, .ref (ad k0))]) hx hb dX3_drawLine_20 rfl hl (by decide) rfl (fun ls hl => ?_)
  exact h _ _ _ _ _ _ _ _ _ _ _ _ _ _ _ _ C w (lv_sub hl [1, 0] rfl)
theorem e_X3_drawLine (d : Nat) (k0 : Nat) {σ : tk_S} {Q : tk_S → Prop} (h : g_X3_drawLine d 0 [(0, aN k0)] σ Q) : p_X3_drawLine d [aN k0] σ Q := tk_entry (by decide) rfl (fun _ => Nat.le_of_ble_eq_true rfl) (fun _ => rfl) h
abbrev g_X3_drawStep (d pc : Nat) (vals : List (Nat × tk_V)) (σ : tk_S) (Q : tk_S → Prop) : Prop := tk_G RX3 cX3_drawStep 11 none d pc vals σ (tk_v Q)
set_option maxHeartbeats 4000000 in
set_option maxRecDepth 100000 in
theorem b_X3_drawStep_35 (d : Nat) (k0 : Nat) (h_0 : tk_sh k0 = tk_shape) (x1 : Int32) (x2 : Int32) (x5 : Int32) (x6 : Int32) (x7 : Int32) (x8 : Int32) (σ : tk_S) (Q : tk_S → Prop) (h : (x7 < x8 → Q σ) ∧ (¬ x7 < x8 → p_J9_floorDiv_7cf53 d [aI (((2 * x8) * x5) + x7), aI (2 * x7)] σ (fun y4 σ3 => ∀ z5 : Int32, z5 = x1 + y4 → (p_J9_floorDiv_7cf53 d [aI (((2 * x8) * x6) + x7), aI (2 * x7)] σ3 (fun y8 σ7 => ∀ z9 : Int32, z9 = x2 + y8 → (p_X2_raise d [aN (k0 + 3), aI z5, aI z9] σ7 (fun σ11 => g_X3_drawStep (d + 1) 35 [(0, aN k0), (1, aI x1), (2, aI x2), (5, aI x5), (6, aI x6), (7, aI x7), (8, aI (x8 + 1))] σ11 Q))))))) : g_X3_drawStep (d + 1) 35 [(0, aN k0), (1, aI x1), (2, aI x2), (5, aI x5), (6, aI x6), (7, aI x7), (8, aI x8)] σ Q := by
  intro p l e s m args below meth c D cy ad base H locs ls C w hl
  obtain ⟨hx, hb, hml, hown, hts, hr, hlk⟩ := id C
  have hl : lv_has ls 11 [(0, .ref (ad k0)), (1, .int x1), (2, .int x2), (5, .int x5), (6, .int x6), (7, .int x7), (8, .int x8)] := hl
  refine lv_iload hx hb dX3_drawStep_35 (lv_at hl 6 rfl) ?_
  refine lv_iload hx hb dX3_drawStep_37 (lv_at hl 5 rfl) ?_
  refine lv_icmp_gt (tgt := 101) hx hb dX3_drawStep_39 (by decide) (fun c1 => ?_) (fun c1 => ?_)
  · have h := h.1 c1
    exact tk_retv C w dX3_drawStep_101 h
  · have h := h.2 c1
    refine lv_iload_n hx hb dX3_drawStep_42 rfl (lv_at hl 1 rfl) ?_
    refine lv_iconst (v := 2) hx hb dX3_drawStep_43 (by decide) ?_
    refine lv_iload hx hb dX3_drawStep_44 (lv_at hl 6 rfl) ?_
    refine lv_imul hx hb dX3_drawStep_46 ?_
    refine lv_iload hx hb dX3_drawStep_47 (lv_at hl 3 rfl) ?_
    refine lv_imul hx hb dX3_drawStep_49 ?_
    refine lv_iload hx hb dX3_drawStep_50 (lv_at hl 5 rfl) ?_
    refine lv_iadd hx hb dX3_drawStep_52 ?_
    refine lv_iconst (v := 2) hx hb dX3_drawStep_53 (by decide) ?_
    refine lv_iload hx hb dX3_drawStep_54 (lv_at hl 5 rfl) ?_
    refine lv_imul hx hb dX3_drawStep_56 ?_
    refine tk_cS C w (as := [aI (((2 * x8) * x5) + x7), aI (2 * x7)]) (rest := [.int x1]) mw_195 mw_194 mw_192 mw_193 hd_J9_floorDiv_7cf53 (by decide) hl.1 (Nat.le_of_ble_eq_true rfl) rfl dX3_drawStep_57 h (fun r2 σ3 H locs hq w => ?_)
    obtain ⟨y4, rfl, h⟩ := hq
    refine W.eq (g2 := F0 m 60 ls [.int y4, .int x1]) rfl ?_
    refine lv_iadd hx hb dX3_drawStep_60 ?_
    refine lv_topi (fun z5 e_z5 => ?_)
    have h := h z5 e_z5
    refine lv_istore (lv' := [(9, .int z5), (0, .ref (ad k0)), (1, .int x1), (2, .int x2), (5, .int x5), (6, .int x6), (7, .int x7), (8, .int x8)]) hx hb dX3_drawStep_61 hl (by decide) rfl (fun ls hl => ?_)
    refine lv_iload_n hx hb dX3_drawStep_63 rfl (lv_at hl 3 rfl) ?_
    refine lv_iconst (v := 2) hx hb dX3_drawStep_64 (by decide) ?_
    refine lv_iload hx hb dX3_drawStep_65 (lv_at hl 7 rfl) ?_
    refine lv_imul hx hb dX3_drawStep_67 ?_
    refine lv_iload hx hb dX3_drawStep_68 (lv_at hl 5 rfl) ?_
    refine lv_imul hx hb dX3_drawStep_70 ?_
    refine lv_iload hx hb dX3_drawStep_71 (lv_at hl 6 rfl) ?_
    refine lv_iadd hx hb dX3_drawStep_73 ?_
    refine lv_iconst (v := 2) hx hb dX3_drawStep_74 (by decide) ?_
    refine lv_iload hx hb dX3_drawStep_75 (lv_at hl 6 rfl) ?_
    refine lv_imul hx hb dX3_drawStep_77 ?_
    refine tk_cS C w (as := [aI (((2 * x8) * x6) + x7), aI (2 * x7)]) (rest := [.int x2]) mw_195 mw_194 mw_192 mw_193 hd_J9_floorDiv_7cf53 (by decide) hl.1 (Nat.le_of_ble_eq_true rfl) rfl dX3_drawStep_78 h (fun r6 σ7 H locs hq w => ?_)
    obtain ⟨y8, rfl, h⟩ := hq
    refine W.eq (g2 := F0 m 81 ls [.int y8, .int x2]) rfl ?_
    refine lv_iadd hx hb dX3_drawStep_81 ?_
    refine lv_topi (fun z9 e_z9 => ?_)
    have h := h z9 e_z9
    refine lv_istore (lv' := [(10, .int z9), (9, .int z5), (0, .ref (ad k0)), (1, .int x1), (2, .int x2), (5, .int x5), (6, .int x6), (7, .int x7), (8, .int x8)]) hx hb dX3_drawStep_82 hl (by decide) rfl (fun ls hl => ?_)
    refine lv_aload_n hx hb dX3_drawStep_84 rfl (lv_at hl 2 rfl) ?_
    refine tk_get (k := k0) (v := .ref (ad (k0 + 3))) hx hb hts hown w h_0 rfl inlX3 5 (by decide) mw_95 rfl dX3_drawStep_85 ?_
    refine lv_iload hx hb dX3_drawStep_88 (lv_at hl 1 rfl) ?_
    refine lv_iload hx hb dX3_drawStep_90 (lv_at hl 0 rfl) ?_
    refine tk_cV C w (k := k0 + 3) (tk_s3 h_0) rfl (as := [aI z5, aI z9]) (rest := []) mw_180 mw_23 mw_177 mw_178 mw_179 hd_X2_raise (by decide) hl.1 (Nat.le_of_ble_eq_true rfl) rfl dX3_drawStep_92 h (fun r10 σ11 H locs hq w => ?_)
    obtain ⟨rfl, h⟩ := hq
    refine W.eq (g2 := F0 m 95 ls []) rfl ?_
    refine lv_iinc (v := x8 + 1) (lv' := [(8, .int (x8 + 1)), (10, .int z9), (9, .int z5), (0, .ref (ad k0)), (1, .int x1), (2, .int x2), (5, .int x5), (6, .int x6), (7, .int x7)]) hx hb dX3_drawStep_95 hl (k := 8) rfl rfl (by decide) rfl (fun ls hl => ?_)
    refine lv_goto (tgt := 35) hx hb dX3_drawStep_98 (by decide) ?_
    exact h _ _ _ _ _ _ _ _ _ _ _ _ _ _ _ _ C w (lv_sub hl [3, 4, 5, 6, 7, 8, 0] rfl)
set_option maxHeartbeats 4000000 in
set_option maxRecDepth 100000 in
theorem b_X3_drawStep_0 (d : Nat) (k0 : Nat) (h_0 : tk_sh k0 = tk_shape) (x1 : Int32) (x2 : Int32) (x3 : Int32) (x4 : Int32) (σ : tk_S) (Q : tk_S → Prop) (h : ∀ z1 : Int32, z1 = x3 - x1 → (∀ z2 : Int32, z2 = x4 - x2 → (∀ z3 : Int32, z3 = (if (if 0 ≤ z1 then z1 else 0 - z1) < (if 0 ≤ z2 then z2 else 0 - z2) then (if 0 ≤ z2 then z2 else 0 - z2) else (if 0 ≤ z1 then z1 else 0 - z1)) → ((¬ z3 = 0 → g_X3_drawStep (d + 1) 35 [(0, aN k0), (1, aI x1), (2, aI x2), (5, aI z1), (6, aI z2), (7, aI z3), (8, aI 0)] σ Q) ∧ (z3 = 0 → Q σ))))) : g_X3_drawStep (d + 1) 0 [(0, aN k0), (1, aI x1), (2, aI x2), (3, aI x3), (4, aI x4)] σ Q := by
  intro p l e s m args below meth c D cy ad base H locs ls C w hl
  obtain ⟨hx, hb, hml, hown, hts, hr, hlk⟩ := id C
  have hl : lv_has ls 11 [(0, .ref (ad k0)), (1, .int x1), (2, .int x2), (3, .int x3), (4, .int x4)] := hl
  refine lv_iload_n hx hb dX3_drawStep_0 rfl (lv_at hl 3 rfl) ?_
  refine lv_iload_n hx hb dX3_drawStep_1 rfl (lv_at hl 1 rfl) ?_
  refine lv_isub hx hb dX3_drawStep_2 ?_
  refine lv_topi (fun z1 e_z1 => ?_)
  have h := h z1 e_z1
  refine lv_istore (lv' := [(5, .int z1), (0, .ref (ad k0)), (1, .int x1), (2, .int x2), (3, .int x3), (4, .int x4)]) hx hb dX3_drawStep_3 hl (by decide) rfl (fun ls hl => ?_)
  refine lv_iload hx hb dX3_drawStep_5 (lv_at hl 5 rfl) ?_
  refine lv_iload_n hx hb dX3_drawStep_7 rfl (lv_at hl 3 rfl) ?_
  refine lv_isub hx hb dX3_drawStep_8 ?_
  refine lv_topi (fun z2 e_z2 => ?_)
  have h := h z2 e_z2
  refine lv_istore (lv' := [(6, .int z2), (5, .int z1), (0, .ref (ad k0)), (1, .int x1), (2, .int x2), (3, .int x3), (4, .int x4)]) hx hb dX3_drawStep_9 hl (by decide) rfl (fun ls hl => ?_)
  refine lv_iload hx hb dX3_drawStep_11 (lv_at hl 1 rfl) ?_
  refine va_mabs hx hb (by rw [hml]; exact hl.1.symm) hown (hts _ mw_185) (hts _ mw_186) (hts _ mw_187) (hts _ mw_188) (Nat.succ_le_succ (Nat.zero_le _)) (Nat.le_trans (m := 64) (Nat.le_of_ble_eq_true rfl) (by show 64 ≤ 64 * (d + 1); omega)) (Nat.le_refl _) (Nat.le_refl _) dX3_drawStep_13 ?_
  refine lv_iload hx hb dX3_drawStep_16 (lv_at hl 0 rfl) ?_
  refine va_mabs hx hb (by rw [hml]; exact hl.1.symm) hown (hts _ mw_185) (hts _ mw_186) (hts _ mw_187) (hts _ mw_188) (Nat.succ_le_succ (Nat.zero_le _)) (Nat.le_trans (m := 64) (Nat.le_of_ble_eq_true rfl) (by show 64 ≤ 64 * (d + 1); omega)) (Nat.le_refl _) (Nat.le_refl _) dX3_drawStep_18 ?_
  refine va_mmax hx hb (by rw [hml]; exact hl.1.symm) hown (hts _ mw_189) (hts _ mw_190) (hts _ mw_187) (hts _ mw_191) (Nat.succ_le_succ (Nat.zero_le _)) (Nat.le_trans (m := 64) (Nat.le_of_ble_eq_true rfl) (by show 64 ≤ 64 * (d + 1); omega)) (Nat.le_refl _) (Nat.le_refl _) dX3_drawStep_21 ?_
  refine lv_topi (fun z3 e_z3 => ?_)
  have h := h z3 e_z3
  refine lv_istore (lv' := [(7, .int z3), (6, .int z2), (5, .int z1), (0, .ref (ad k0)), (1, .int x1), (2, .int x2), (3, .int x3), (4, .int x4)]) hx hb dX3_drawStep_24 hl (by decide) rfl (fun ls hl => ?_)
  refine lv_iload hx hb dX3_drawStep_26 (lv_at hl 0 rfl) ?_
  refine lv_if_ne (tgt := 32) hx hb dX3_drawStep_28 (by decide) (fun c4 => ?_) (fun c4 => ?_)
  · have h := h.1 c4
    refine lv_iconst (v := 0) hx hb dX3_drawStep_32 (by decide) ?_
    refine lv_istore (lv' := [(8, .int 0), (7, .int z3), (6, .int z2), (5, .int z1), (0, .ref (ad k0)), (1, .int x1), (2, .int x2), (3, .int x3), (4, .int x4)]) hx hb dX3_drawStep_33 hl (by decide) rfl (fun ls hl => ?_)
    exact h _ _ _ _ _ _ _ _ _ _ _ _ _ _ _ _ C w (lv_sub hl [4, 5, 6, 3, 2, 1, 0] rfl)
  · have h := h.2 c4
    exact tk_retv C w dX3_drawStep_31 h
theorem e_X3_drawStep (d : Nat) (k0 : Nat) (x1 : Int32) (x2 : Int32) (x3 : Int32) (x4 : Int32) {σ : tk_S} {Q : tk_S → Prop} (h : g_X3_drawStep d 0 [(0, aN k0), (1, aI x1), (2, aI x2), (3, aI x3), (4, aI x4)] σ Q) : p_X3_drawStep d [aN k0, aI x1, aI x2, aI x3, aI x4] σ Q := tk_entry (by decide) rfl (fun _ => Nat.le_of_ble_eq_true rfl) (fun _ => rfl) h
abbrev g_X3_drawGround (d pc : Nat) (vals : List (Nat × tk_V)) (σ : tk_S) (Q : tk_S → Prop) : Prop := tk_G RX3 cX3_drawGround 3 none d pc vals σ (tk_v Q)
set_option maxHeartbeats 4000000 in
set_option maxRecDepth 100000 in
theorem b_X3_drawGround_25 (d : Nat) (k0 : Nat) (h_0 : tk_sh k0 = tk_shape) (x1 : Int32) (x2 : Int32) (σ : tk_S) (Q : tk_S → Prop) (h : ((σ.1 (k0 + 2) (Int32.toNatClampNeg 1)) < x2 → Q σ) ∧ (¬ (σ.1 (k0 + 2) (Int32.toNatClampNeg 1)) < x2 → vp_in x2 24 ∧ (g_X3_drawGround d 25 [(0, aN k0), (1, aI x1), (2, aI (x2 + 1))] (tk_up σ ((k0 + 3) + 1) (Int32.toNatClampNeg x2) x1) Q))) : g_X3_drawGround d 25 [(0, aN k0), (1, aI x1), (2, aI x2)] σ Q := by
  intro p l e s m args below meth c D cy ad base H locs ls C w hl
  obtain ⟨hx, hb, hml, hown, hts, hr, hlk⟩ := id C
  have hl : lv_has ls 3 [(0, .ref (ad k0)), (1, .int x1), (2, .int x2)] := hl
  refine lv_iload_n hx hb dX3_drawGround_25 rfl (lv_at hl 2 rfl) ?_
  refine lv_aload_n hx hb dX3_drawGround_26 rfl (lv_at hl 0 rfl) ?_
  refine tk_get (k := k0) (v := .ref (ad (k0 + 2))) hx hb hts hown w h_0 rfl inlX3 4 (by decide) mw_93 rfl dX3_drawGround_27 ?_
  refine lv_iconst (v := 1) hx hb dX3_drawGround_30 (by decide) ?_
  refine tk_iald (k := k0 + 2) hx hb w (tk_s2 h_0) (by unfold vp_in; decide) dX3_drawGround_31 ?_
  refine lv_icmp_gt (tgt := 51) hx hb dX3_drawGround_32 (by decide) (fun c1 => ?_) (fun c1 => ?_)
  · have h := h.1 c1
    exact tk_retv C w dX3_drawGround_51 h
  · have h := h.2 c1
    refine lv_aload_n hx hb dX3_drawGround_35 rfl (lv_at hl 0 rfl) ?_
    refine tk_get (k := k0) (v := .ref (ad (k0 + 3))) hx hb hts hown w h_0 rfl inlX3 5 (by decide) mw_95 rfl dX3_drawGround_36 ?_
    refine tk_get (k := k0 + 3) (v := .ref (ad ((k0 + 3) + 1))) hx hb hts hown w (tk_s3 h_0) rfl inlX2 0 (by decide) mw_200 rfl dX3_drawGround_39 ?_
    refine lv_iload_n hx hb dX3_drawGround_42 rfl (lv_at hl 2 rfl) ?_
    refine lv_iload_n hx hb dX3_drawGround_43 rfl (lv_at hl 1 rfl) ?_
    obtain ⟨hi2, h⟩ := h
    refine tk_iast (k := (k0 + 3) + 1) hx hb w (tk_p1 (tk_s3 h_0)) hi2 dX3_drawGround_44 (fun H locs w => ?_)
    refine lv_iinc (v := x2 + 1) (lv' := [(2, .int (x2 + 1)), (0, .ref (ad k0)), (1, .int x1)]) hx hb dX3_drawGround_45 hl (k := 2) rfl rfl (by decide) rfl (fun ls hl => ?_)
    refine lv_goto (tgt := 25) hx hb dX3_drawGround_48 (by decide) ?_
    exact h _ _ _ _ _ _ _ _ _ _ _ _ _ _ _ _ C w (lv_sub hl [1, 2, 0] rfl)
set_option maxHeartbeats 4000000 in
set_option maxRecDepth 100000 in
theorem b_X3_drawGround_0 (d : Nat) (k0 : Nat) (h_0 : tk_sh k0 = tk_shape) (σ : tk_S) (Q : tk_S → Prop) (h : ∀ z1 : Int32, z1 = ((2 : Int32) <<< ((σ.1 (k0 + 1) (Int32.toNatClampNeg 1)) &&& 31)) - ((1 : Int32) <<< ((σ.1 (k0 + 1) (Int32.toNatClampNeg 0)) &&& 31)) → (∀ z2 : Int32, z2 = σ.1 (k0 + 2) (Int32.toNatClampNeg 0) → (g_X3_drawGround d 25 [(0, aN k0), (1, aI z1), (2, aI z2)] σ Q))) : g_X3_drawGround d 0 [(0, aN k0)] σ Q := by
  intro p l e s m args below meth c D cy ad base H locs ls C w hl
  obtain ⟨hx, hb, hml, hown, hts, hr, hlk⟩ := id C
  have hl : lv_has ls 3 [(0, .ref (ad k0))] := hl
  refine lv_iconst (v := 2) hx hb dX3_drawGround_0 (by decide) ?_
  refine lv_aload_n hx hb dX3_drawGround_1 rfl (lv_at hl 0 rfl) ?_
  refine tk_get (k := k0) (v := .ref (ad (k0 + 1))) hx hb hts hown w h_0 rfl inlX3 3 (by decide) mw_92 rfl dX3_drawGround_2 ?_
  refine lv_iconst (v := 1) hx hb dX3_drawGround_5 (by decide) ?_
  refine tk_iald (k := k0 + 1) hx hb w (tk_s1 h_0) (by unfold vp_in; decide) dX3_drawGround_6 ?_
  refine lv_ishl hx hb dX3_drawGround_7 ?_
  refine lv_iconst (v := 1) hx hb dX3_drawGround_8 (by decide) ?_
  refine lv_aload_n hx hb dX3_drawGround_9 rfl (lv_at hl 0 rfl) ?_
  refine tk_get (k := k0) (v := .ref (ad (k0 + 1))) hx hb hts hown w h_0 rfl inlX3 3 (by decide) mw_92 rfl dX3_drawGround_10 ?_
  refine lv_iconst (v := 0) hx hb dX3_drawGround_13 (by decide) ?_
  refine tk_iald (k := k0 + 1) hx hb w (tk_s1 h_0) (by unfold vp_in; decide) dX3_drawGround_14 ?_
  refine lv_ishl hx hb dX3_drawGround_15 ?_
  refine lv_isub hx hb dX3_drawGround_16 ?_
  refine lv_topi (fun z1 e_z1 => ?_)
  have h := h z1 e_z1
  refine lv_istore_n (lv' := [(1, .int z1), (0, .ref (ad k0))]) hx hb dX3_drawGround_17 rfl hl (by decide) rfl (fun ls hl => ?_)
  refine lv_aload_n hx hb dX3_drawGround_18 rfl (lv_at hl 1 rfl) ?_
  refine tk_get (k := k0) (v := .ref (ad (k0 + 2))) hx hb hts hown w h_0 rfl inlX3 4 (by decide) mw_93 rfl dX3_drawGround_19 ?_
  refine lv_iconst (v := 0) hx hb dX3_drawGround_22 (by decide) ?_
  refine tk_iald (k := k0 + 2) hx hb w (tk_s2 h_0) (by unfold vp_in; decide) dX3_drawGround_23 ?_
  refine lv_topi (fun z2 e_z2 => ?_)
  have h := h z2 e_z2
  refine lv_istore_n (lv' := [(2, .int z2), (1, .int z1), (0, .ref (ad k0))]) hx hb dX3_drawGround_24 rfl hl (by decide) rfl (fun ls hl => ?_)
  exact h _ _ _ _ _ _ _ _ _ _ _ _ _ _ _ _ C w (lv_sub hl [2, 1, 0] rfl)
theorem e_X3_drawGround (d : Nat) (k0 : Nat) {σ : tk_S} {Q : tk_S → Prop} (h : g_X3_drawGround d 0 [(0, aN k0)] σ Q) : p_X3_drawGround d [aN k0] σ Q := tk_entry (by decide) rfl (fun _ => Nat.le_of_ble_eq_true rfl) (fun _ => rfl) h
abbrev g_X3_drawMark (d pc : Nat) (vals : List (Nat × tk_V)) (σ : tk_S) (Q : tk_S → Prop) : Prop := tk_G RX3 cX3_drawMark 3 none d pc vals σ (tk_v Q)
set_option maxHeartbeats 4000000 in
set_option maxRecDepth 100000 in
theorem b_X3_drawMark_0 (d : Nat) (k0 : Nat) (h_0 : tk_sh k0 = tk_shape) (σ : tk_S) (Q : tk_S → Prop) (h : ∀ z1 : Int32, z1 = σ.1 (k0 + 1) (Int32.toNatClampNeg 0) → (∀ z2 : Int32, z2 = σ.1 (k0 + 2) (Int32.toNatClampNeg 0) → (p_X2_raise d [aN (k0 + 3), aI z1, aI z2] σ (fun σ4 => p_X2_raise d [aN (k0 + 3), aI (z1 - 1), aI z2] σ4 (fun σ6 => p_X2_raise d [aN (k0 + 3), aI (z1 + 1), aI z2] σ6 (fun σ8 => p_X2_raise d [aN (k0 + 3), aI z1, aI (z2 - 1)] σ8 (fun σ10 => p_X2_raise d [aN (k0 + 3), aI z1, aI (z2 + 1)] σ10 (fun σ12 => Q σ12)))))))) : g_X3_drawMark (d + 1) 0 [(0, aN k0)] σ Q := by
  intro p l e s m args below meth c D cy ad base H locs ls C w hl
  obtain ⟨hx, hb, hml, hown, hts, hr, hlk⟩ := id C
  have hl : lv_has ls 3 [(0, .ref (ad k0))] := hl
  refine lv_aload_n hx hb dX3_drawMark_0 rfl (lv_at hl 0 rfl) ?_
  refine tk_get (k := k0) (v := .ref (ad (k0 + 1))) hx hb hts hown w h_0 rfl inlX3 3 (by decide) mw_92 rfl dX3_drawMark_1 ?_
  refine lv_iconst (v := 0) hx hb dX3_drawMark_4 (by decide) ?_
  refine tk_iald (k := k0 + 1) hx hb w (tk_s1 h_0) (by unfold vp_in; decide) dX3_drawMark_5 ?_
  refine lv_topi (fun z1 e_z1 => ?_)
  have h := h z1 e_z1
  refine lv_istore_n (lv' := [(1, .int z1), (0, .ref (ad k0))]) hx hb dX3_drawMark_6 rfl hl (by decide) rfl (fun ls hl => ?_)
  refine lv_aload_n hx hb dX3_drawMark_7 rfl (lv_at hl 1 rfl) ?_
  refine tk_get (k := k0) (v := .ref (ad (k0 + 2))) hx hb hts hown w h_0 rfl inlX3 4 (by decide) mw_93 rfl dX3_drawMark_8 ?_
  refine lv_iconst (v := 0) hx hb dX3_drawMark_11 (by decide) ?_
  refine tk_iald (k := k0 + 2) hx hb w (tk_s2 h_0) (by unfold vp_in; decide) dX3_drawMark_12 ?_
  refine lv_topi (fun z2 e_z2 => ?_)
  have h := h z2 e_z2
  refine lv_istore_n (lv' := [(2, .int z2), (1, .int z1), (0, .ref (ad k0))]) hx hb dX3_drawMark_13 rfl hl (by decide) rfl (fun ls hl => ?_)
  refine lv_aload_n hx hb dX3_drawMark_14 rfl (lv_at hl 2 rfl) ?_
  refine tk_get (k := k0) (v := .ref (ad (k0 + 3))) hx hb hts hown w h_0 rfl inlX3 5 (by decide) mw_95 rfl dX3_drawMark_15 ?_
  refine lv_iload_n hx hb dX3_drawMark_18 rfl (lv_at hl 1 rfl) ?_
  refine lv_iload_n hx hb dX3_drawMark_19 rfl (lv_at hl 0 rfl) ?_
  refine tk_cV C w (k := k0 + 3) (tk_s3 h_0) rfl (as := [aI z1, aI z2]) (rest := []) mw_180 mw_23 mw_177 mw_178 mw_179 hd_X2_raise (by decide) hl.1 (Nat.le_of_ble_eq_true rfl) rfl dX3_drawMark_20 h (fun r3 σ4 H locs hq w => ?_)
  obtain ⟨rfl, h⟩ := hq
  refine W.eq (g2 := F0 m 23 ls []) rfl ?_
  refine lv_aload_n hx hb dX3_drawMark_23 rfl (lv_at hl 2 rfl) ?_
  refine tk_get (k := k0) (v := .ref (ad (k0 + 3))) hx hb hts hown w h_0 rfl inlX3 5 (by decide) mw_95 rfl dX3_drawMark_24 ?_
  refine lv_iload_n hx hb dX3_drawMark_27 rfl (lv_at hl 1 rfl) ?_
  refine lv_iconst (v := 1) hx hb dX3_drawMark_28 (by decide) ?_
  refine lv_isub hx hb dX3_drawMark_29 ?_
  refine lv_iload_n hx hb dX3_drawMark_30 rfl (lv_at hl 0 rfl) ?_
  refine tk_cV C w (k := k0 + 3) (tk_s3 h_0) rfl (as := [aI (z1 - 1), aI z2]) (rest := []) mw_180 mw_23 mw_177 mw_178 mw_179 hd_X2_raise (by decide) hl.1 (Nat.le_of_ble_eq_true rfl) rfl dX3_drawMark_31 h (fun r5 σ6 H locs hq w => ?_)
  obtain ⟨rfl, h⟩ := hq
  refine W.eq (g2 := F0 m 34 ls []) rfl ?_
  refine lv_aload_n hx hb dX3_drawMark_34 rfl (lv_at hl 2 rfl) ?_
  refine tk_get (k := k0) (v := .ref (ad (k0 + 3))) hx hb hts hown w h_0 rfl inlX3 5 (by decide) mw_95 rfl dX3_drawMark_35 ?_
  refine lv_iload_n hx hb dX3_drawMark_38 rfl (lv_at hl 1 rfl) ?_
  refine lv_iconst (v := 1) hx hb dX3_drawMark_39 (by decide) ?_
  refine lv_iadd hx hb dX3_drawMark_40 ?_
  refine lv_iload_n hx hb dX3_drawMark_41 rfl (lv_at hl 0 rfl) ?_
  refine tk_cV C w (k := k0 + 3) (tk_s3 h_0) rfl (as := [aI (z1 + 1), aI z2]) (rest := []) mw_180 mw_23 mw_177 mw_178 mw_179 hd_X2_raise (by decide) hl.1 (Nat.le_of_ble_eq_true rfl) rfl dX3_drawMark_42 h (fun r7 σ8 H locs hq w => ?_)
  obtain ⟨rfl, h⟩ := hq
  refine W.eq (g2 := F0 m 45 ls []) rfl ?_
  refine lv_aload_n hx hb dX3_drawMark_45 rfl (lv_at hl 2 rfl) ?_
  refine tk_get (k := k0) (v := .ref (ad (k0 + 3))) hx hb hts hown w h_0 rfl inlX3 5 (by decide) mw_95 rfl dX3_drawMark_46 ?_
  refine lv_iload_n hx hb dX3_drawMark_49 rfl (lv_at hl 1 rfl) ?_
  refine lv_iload_n hx hb dX3_drawMark_50 rfl (lv_at hl 0 rfl) ?_
  refine lv_iconst (v := 1) hx hb dX3_drawMark_51 (by decide) ?_
  refine lv_isub hx hb dX3_drawMark_52 ?_
  refine tk_cV C w (k := k0 + 3) (tk_s3 h_0) rfl (as := [aI z1, aI (z2 - 1)]) (rest := []) mw_180 mw_23 mw_177 mw_178 mw_179 hd_X2_raise (by decide) hl.1 (Nat.le_of_ble_eq_true rfl) rfl dX3_drawMark_53 h (fun r9 σ10 H locs hq w => ?_)
  obtain ⟨rfl, h⟩ := hq
  refine W.eq (g2 := F0 m 56 ls []) rfl ?_
  refine lv_aload_n hx hb dX3_drawMark_56 rfl (lv_at hl 2 rfl) ?_
  refine tk_get (k := k0) (v := .ref (ad (k0 + 3))) hx hb hts hown w h_0 rfl inlX3 5 (by decide) mw_95 rfl dX3_drawMark_57 ?_
  refine lv_iload_n hx hb dX3_drawMark_60 rfl (lv_at hl 1 rfl) ?_
  refine lv_iload_n hx hb dX3_drawMark_61 rfl (lv_at hl 0 rfl) ?_
  refine lv_iconst (v := 1) hx hb dX3_drawMark_62 (by decide) ?_
  refine lv_iadd hx hb dX3_drawMark_63 ?_
  refine tk_cV C w (k := k0 + 3) (tk_s3 h_0) rfl (as := [aI z1, aI (z2 + 1)]) (rest := []) mw_180 mw_23 mw_177 mw_178 mw_179 hd_X2_raise (by decide) hl.1 (Nat.le_of_ble_eq_true rfl) rfl dX3_drawMark_64 h (fun r11 σ12 H locs hq w => ?_)
  obtain ⟨rfl, h⟩ := hq
  refine W.eq (g2 := F0 m 67 ls []) rfl ?_
  exact tk_retv C w dX3_drawMark_67 h
theorem e_X3_drawMark (d : Nat) (k0 : Nat) {σ : tk_S} {Q : tk_S → Prop} (h : g_X3_drawMark d 0 [(0, aN k0)] σ Q) : p_X3_drawMark d [aN k0] σ Q := tk_entry (by decide) rfl (fun _ => Nat.le_of_ble_eq_true rfl) (fun _ => rfl) h
