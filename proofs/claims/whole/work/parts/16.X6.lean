abbrev g_X6_giveTextures (d pc : Nat) (vals : List (Nat × tk_V)) (σ : tk_S) (Q : tk_S → Prop) : Prop := tk_G RX6 cX6_giveTextures 3 none d pc vals σ (tk_v Q)
set_option maxHeartbeats 4000000 in
set_option maxRecDepth 100000 in
theorem b_X6_giveTextures_11 (d : Nat) (x2 : Int32) (σ : tk_S) (Q : tk_S → Prop) (h : (12 ≤ x2 → p_X6_leastBelow d [aN 30, aL 1152921504606846976, aI (σ.1 30 7), aI 0] σ (fun y4 σ3 => Q (σ3.1, y4))) ∧ (¬ 12 ≤ x2 → vp_in 0 13 ∧ (vp_in x2 12 ∧ (g_X6_giveTextures (d + 1) 11 [(0, aN 30), (2, aI (x2 + 1))] (tk_up σ (37 + 1 + 1 * Int32.toNatClampNeg 0) (Int32.toNatClampNeg x2) 15) Q)))) : g_X6_giveTextures (d + 1) 11 [(0, aN 30), (2, aI x2)] σ Q := by
  intro p l e s m args below meth c D cy ad base H locs ls C w hl
  obtain ⟨hx, hb, hml, hown, hts, hr, hlk⟩ := id C
  have hl : lv_has ls 3 [(0, .ref (ad 30)), (2, .int x2)] := hl
  refine lv_iload_n hx hb dX6_giveTextures_11 rfl (lv_at hl 1 rfl) ?_
  refine lv_bipush (v := 12) hx hb dX6_giveTextures_12 (by decide) ?_
  refine lv_icmp_ge (tgt := 33) hx hb dX6_giveTextures_14 (by decide) (fun c1 => ?_) (fun c1 => ?_)
  · have h := h.1 c1
    refine lv_aload_n hx hb dX6_giveTextures_33 rfl (lv_at hl 0 rfl) ?_
    refine lv_aload_n hx hb dX6_giveTextures_34 rfl (lv_at hl 0 rfl) ?_
    refine lv_ldc2 (v := 1152921504606846976) hx hb hown (hts _ mw_577) dX6_giveTextures_35 ?_
    refine lv_aload_n hx hb dX6_giveTextures_38 rfl (lv_at hl 0 rfl) ?_
    refine tk_get (k := 30) (v := .int (σ.1 30 7)) hx hb hts hown w rfl rfl inlX6 7 (by decide) mw_576 rfl dX6_giveTextures_39 ?_
    refine lv_iconst (v := 0) hx hb dX6_giveTextures_42 (by decide) ?_
    refine tk_cV C w (k := 30) rfl rfl (as := [aL 1152921504606846976, aI (σ.1 30 7), aI 0]) (rest := [.ref (ad 30)]) mw_590 mw_39 mw_587 mw_588 mw_589 hd_X6_leastBelow (by decide) hl.1 (Nat.le_of_ble_eq_true rfl) rfl dX6_giveTextures_43 h (fun r2 σ3 H locs hq w => ?_)
    obtain ⟨y4, rfl, h⟩ := hq
    refine W.eq (g2 := F0 m 46 ls [.long y4, .ref (ad 30)]) rfl ?_
    refine tk_putl hx hb hts hown w rfl rfl inlX6 tyX6 tyX6_ok nmX6 8 (by decide) mw_578 rfl (by decide +kernel) (fun _ _ _ => rfl) (by decide) dX6_giveTextures_46 (fun H locs w => ?_)
    exact tk_retv C w dX6_giveTextures_49 h
  · have h := h.2 c1
    refine lv_aload_n hx hb dX6_giveTextures_17 rfl (lv_at hl 0 rfl) ?_
    refine tk_get (k := 30) (v := .ref (ad 37)) hx hb hts hown w rfl rfl inlX6 6 (by decide) mw_80 rfl dX6_giveTextures_18 ?_
    refine lv_iconst (v := 0) hx hb dX6_giveTextures_21 (by decide) ?_
    obtain ⟨hi5, h⟩ := h
    refine tk_aald (k := 37) (t := 1) (ty := .array .int) hx hb w rfl (by decide) rfl rfl hi5 dX6_giveTextures_22 ?_
    refine lv_iload_n hx hb dX6_giveTextures_23 rfl (lv_at hl 1 rfl) ?_
    refine lv_bipush (v := 15) hx hb dX6_giveTextures_24 (by decide) ?_
    obtain ⟨hi6, h⟩ := h
    refine tk_iast (k := 37 + 1 + 1 * Int32.toNatClampNeg 0) hx hb w (tk_r37 hi5) hi6 dX6_giveTextures_26 (fun H locs w => ?_)
    refine lv_iinc (v := x2 + 1) (lv' := [(2, .int (x2 + 1)), (0, .ref (ad 30))]) hx hb dX6_giveTextures_27 hl (k := 1) rfl rfl (by decide) rfl (fun ls hl => ?_)
    refine lv_goto (tgt := 11) hx hb dX6_giveTextures_30 (by decide) ?_
    exact h _ _ _ _ _ _ _ _ _ _ _ _ _ _ _ _ C w (lv_sub hl [1, 0] rfl)
set_option maxHeartbeats 4000000 in
set_option maxRecDepth 100000 in
theorem b_X6_giveTextures_0 (d : Nat) (x1 : Int32) (σ : tk_S) (Q : tk_S → Prop) (h : p_X6_rankTextures d [aN 30] (tk_up σ 30 7 x1) (fun σ2 => g_X6_giveTextures (d + 1) 11 [(0, aN 30), (2, aI 0)] σ2 Q)) : g_X6_giveTextures (d + 1) 0 [(0, aN 30), (1, aI x1)] σ Q := by
  intro p l e s m args below meth c D cy ad base H locs ls C w hl
  obtain ⟨hx, hb, hml, hown, hts, hr, hlk⟩ := id C
  have hl : lv_has ls 3 [(0, .ref (ad 30)), (1, .int x1)] := hl
  refine lv_aload_n hx hb dX6_giveTextures_0 rfl (lv_at hl 0 rfl) ?_
  refine lv_iload_n hx hb dX6_giveTextures_1 rfl (lv_at hl 1 rfl) ?_
  refine tk_puti (k := 30) (ty := .int) hx hb hts hown w rfl rfl inlX6 tyX6 tyX6_ok nmX6 7 (by decide) mw_576 rfl rfl (by decide +kernel) rfl rfl dX6_giveTextures_2 (fun H locs w => ?_)
  refine lv_aload_n hx hb dX6_giveTextures_5 rfl (lv_at hl 0 rfl) ?_
  refine tk_cV C w (k := 30) rfl rfl (as := []) (rest := []) mw_582 mw_39 mw_579 mw_580 mw_581 hd_X6_rankTextures (by decide) hl.1 (Nat.le_of_ble_eq_true rfl) rfl dX6_giveTextures_6 h (fun r1 σ2 H locs hq w => ?_)
  obtain ⟨rfl, h⟩ := hq
  refine W.eq (g2 := F0 m 9 ls []) rfl ?_
  refine lv_iconst (v := 0) hx hb dX6_giveTextures_9 (by decide) ?_
  refine lv_istore_n (lv' := [(2, .int 0), (0, .ref (ad 30)), (1, .int x1)]) hx hb dX6_giveTextures_10 rfl hl (by decide) rfl (fun ls hl => ?_)
  exact h _ _ _ _ _ _ _ _ _ _ _ _ _ _ _ _ C w (lv_sub hl [1, 0] rfl)
theorem e_X6_giveTextures (d : Nat) (x1 : Int32) {σ : tk_S} {Q : tk_S → Prop} (h : g_X6_giveTextures d 0 [(0, aN 30), (1, aI x1)] σ Q) : p_X6_giveTextures d [aN 30, aI x1] σ Q := tk_entry (by decide) rfl (fun _ => Nat.le_of_ble_eq_true rfl) (fun _ => rfl) h
abbrev g_X6_textureOf (d pc : Nat) (vals : List (Nat × tk_V)) (σ : tk_S) (Q : Int32 → tk_S → Prop) : Prop := tk_G RX6 cX6_textureOf 2 (some .int) d pc vals σ (tk_i Q)
set_option maxHeartbeats 4000000 in
set_option maxRecDepth 100000 in
theorem b_X6_textureOf_0 (d : Nat) (x1 : Int32) (σ : tk_S) (Q : Int32 → tk_S → Prop) (h : ((lg_cmp σ.2 1152921504606846976) = 0 → Q (-1) σ) ∧ (¬ (lg_cmp σ.2 1152921504606846976) = 0 → p_X7_has d [aI (σ.1 30 7), aI x1] σ (fun y4 σ3 => (¬ y4 = 0 → p_X6_placeOf d [aI x1] σ3 (fun y8 σ7 => Q ((Int64.toInt32 (σ3.2 >>> (Int32.toInt64 y8 &&& 63))) &&& 3) σ7)) ∧ (y4 = 0 → Q (-1) σ3)))) : g_X6_textureOf (d + 1) 0 [(0, aN 30), (1, aI x1)] σ Q := by
  intro p l e s m args below meth c D cy ad base H locs ls C w hl
  obtain ⟨hx, hb, hml, hown, hts, hr, hlk⟩ := id C
  have hl : lv_has ls 2 [(0, .ref (ad 30)), (1, .int x1)] := hl
  refine lv_aload_n hx hb dX6_textureOf_0 rfl (lv_at hl 0 rfl) ?_
  refine tk_get (k := 30) (v := .long σ.2) hx hb hts hown w rfl rfl inlX6 8 (by decide) mw_578 rfl dX6_textureOf_1 ?_
  refine lv_ldc2 (v := 1152921504606846976) hx hb hown (hts _ mw_577) dX6_textureOf_4 ?_
  refine W.lcmp hx hb dX6_textureOf_7 ?_
  refine lv_if_eq (tgt := 22) hx hb dX6_textureOf_8 (by decide) (fun c1 => ?_) (fun c1 => ?_)
  · have h := h.1 c1
    refine lv_iconst (v := (-1)) hx hb dX6_textureOf_22 (by decide) ?_
    exact tk_reti C w dX6_textureOf_23 h
  · have h := h.2 c1
    refine lv_aload_n hx hb dX6_textureOf_11 rfl (lv_at hl 0 rfl) ?_
    refine tk_get (k := 30) (v := .int (σ.1 30 7)) hx hb hts hown w rfl rfl inlX6 7 (by decide) mw_576 rfl dX6_textureOf_12 ?_
    refine lv_iload_n hx hb dX6_textureOf_15 rfl (lv_at hl 1 rfl) ?_
    refine tk_cSN C w (as := [aI (σ.1 30 7), aI x1]) (rest := []) mw_216 mw_2 (List.mem_of_getElem? (i := 13) rfl) mw_215 hd_X7_has (by decide) hl.1 (Nat.le_of_ble_eq_true rfl) rfl dX6_textureOf_16 h (fun r2 σ3 H locs hq w => ?_)
    obtain ⟨y4, rfl, h⟩ := hq
    refine W.eq (g2 := F0 m 19 ls [.int y4]) rfl ?_
    refine lv_if_ne (tgt := 24) hx hb dX6_textureOf_19 (by decide) (fun c5 => ?_) (fun c5 => ?_)
    · have h := h.1 c5
      refine lv_aload_n hx hb dX6_textureOf_24 rfl (lv_at hl 0 rfl) ?_
      refine tk_get (k := 30) (v := .long σ3.2) hx hb hts hown w rfl rfl inlX6 8 (by decide) mw_578 rfl dX6_textureOf_25 ?_
      refine lv_iload_n hx hb dX6_textureOf_28 rfl (lv_at hl 1 rfl) ?_
      refine tk_cS C w (as := [aI x1]) (rest := [.long σ3.2]) mw_601 mw_39 mw_599 mw_600 hd_X6_placeOf (by decide) hl.1 (Nat.le_of_ble_eq_true rfl) rfl dX6_textureOf_29 h (fun r6 σ7 H locs hq w => ?_)
      obtain ⟨y8, rfl, h⟩ := hq
      refine W.eq (g2 := F0 m 32 ls [.int y8, .long σ3.2]) rfl ?_
      refine lv_lshr hx hb dX6_textureOf_32 rfl ?_
      refine lv_l2i hx hb dX6_textureOf_33 rfl ?_
      refine lv_iconst (v := 3) hx hb dX6_textureOf_34 (by decide) ?_
      refine lv_iand hx hb dX6_textureOf_35 ?_
      exact tk_reti C w dX6_textureOf_36 h
    · have h := h.2 c5
      refine lv_iconst (v := (-1)) hx hb dX6_textureOf_22 (by decide) ?_
      exact tk_reti C w dX6_textureOf_23 h
theorem e_X6_textureOf (d : Nat) (x1 : Int32) {σ : tk_S} {Q : Int32 → tk_S → Prop} (h : g_X6_textureOf d 0 [(0, aN 30), (1, aI x1)] σ Q) : p_X6_textureOf d [aN 30, aI x1] σ Q := tk_entry (by decide) rfl (fun _ => Nat.le_of_ble_eq_true rfl) (fun _ => rfl) h
abbrev g_X6_sumOfPrices (d pc : Nat) (vals : List (Nat × tk_V)) (σ : tk_S) (Q : Int32 → tk_S → Prop) : Prop := tk_G RX6 cX6_sumOfPrices 1 (some .int) d pc vals σ (tk_i Q)
set_option maxHeartbeats 4000000 in
set_option maxRecDepth 100000 in
theorem b_X6_sumOfPrices_0 (d : Nat)  (σ : tk_S) (Q : Int32 → tk_S → Prop) (h : (¬ (lg_cmp σ.2 1152921504606846976) = 0 → Q (Int64.toInt32 (σ.2 >>> (Int32.toInt64 24 &&& 63))) σ) ∧ ((lg_cmp σ.2 1152921504606846976) = 0 → Q (-1) σ)) : g_X6_sumOfPrices d 0 [(0, aN 30)] σ Q := by
  intro p l e s m args below meth c D cy ad base H locs ls C w hl
  obtain ⟨hx, hb, hml, hown, hts, hr, hlk⟩ := id C
  have hl : lv_has ls 1 [(0, .ref (ad 30))] := hl
  refine lv_aload_n hx hb dX6_sumOfPrices_0 rfl (lv_at hl 0 rfl) ?_
  refine tk_get (k := 30) (v := .long σ.2) hx hb hts hown w rfl rfl inlX6 8 (by decide) mw_578 rfl dX6_sumOfPrices_1 ?_
  refine lv_ldc2 (v := 1152921504606846976) hx hb hown (hts _ mw_577) dX6_sumOfPrices_4 ?_
  refine W.lcmp hx hb dX6_sumOfPrices_7 ?_
  refine lv_if_ne (tgt := 15) hx hb dX6_sumOfPrices_8 (by decide) (fun c1 => ?_) (fun c1 => ?_)
  · have h := h.1 c1
    refine lv_aload_n hx hb dX6_sumOfPrices_15 rfl (lv_at hl 0 rfl) ?_
    refine tk_get (k := 30) (v := .long σ.2) hx hb hts hown w rfl rfl inlX6 8 (by decide) mw_578 rfl dX6_sumOfPrices_16 ?_
    refine lv_bipush (v := 24) hx hb dX6_sumOfPrices_19 (by decide) ?_
    refine lv_lshr hx hb dX6_sumOfPrices_21 rfl ?_
    refine lv_l2i hx hb dX6_sumOfPrices_22 rfl ?_
    exact tk_reti C w dX6_sumOfPrices_23 h
  · have h := h.2 c1
    refine lv_iconst (v := (-1)) hx hb dX6_sumOfPrices_11 (by decide) ?_
    refine lv_goto (tgt := 23) hx hb dX6_sumOfPrices_12 (by decide) ?_
    exact tk_reti C w dX6_sumOfPrices_23 h
theorem e_X6_sumOfPrices (d : Nat)  {σ : tk_S} {Q : Int32 → tk_S → Prop} (h : g_X6_sumOfPrices d 0 [(0, aN 30)] σ Q) : p_X6_sumOfPrices d [aN 30] σ Q := tk_entry (by decide) rfl (fun _ => Nat.le_of_ble_eq_true rfl) (fun _ => rfl) h
abbrev g_X6_placeOf (d pc : Nat) (vals : List (Nat × tk_V)) (σ : tk_S) (Q : Int32 → tk_S → Prop) : Prop := tk_G RX6 cX6_placeOf 1 (some .int) d pc vals σ (tk_i Q)
set_option maxHeartbeats 4000000 in
set_option maxRecDepth 100000 in
theorem b_X6_placeOf_0 (d : Nat) (x0 : Int32) (σ : tk_S) (Q : Int32 → tk_S → Prop) (h : Q (2 * (11 - x0)) σ) : g_X6_placeOf d 0 [(0, aI x0)] σ Q := by
  intro p l e s m args below meth c D cy ad base H locs ls C w hl
  obtain ⟨hx, hb, hml, hown, hts, hr, hlk⟩ := id C
  have hl : lv_has ls 1 [(0, .int x0)] := hl
  refine lv_iconst (v := 2) hx hb dX6_placeOf_0 (by decide) ?_
  refine lv_bipush (v := 11) hx hb dX6_placeOf_1 (by decide) ?_
  refine lv_iload_n hx hb dX6_placeOf_3 rfl (lv_at hl 0 rfl) ?_
  refine lv_isub hx hb dX6_placeOf_4 ?_
  refine lv_imul hx hb dX6_placeOf_5 ?_
  exact tk_reti C w dX6_placeOf_6 h
theorem e_X6_placeOf (d : Nat) (x0 : Int32) {σ : tk_S} {Q : Int32 → tk_S → Prop} (h : g_X6_placeOf d 0 [(0, aI x0)] σ Q) : p_X6_placeOf d [aI x0] σ Q := tk_entry (by decide) rfl (fun _ => Nat.le_of_ble_eq_true rfl) (fun _ => rfl) h
abbrev g_X6_weight (d pc : Nat) (vals : List (Nat × tk_V)) (σ : tk_S) (Q : Int64 → tk_S → Prop) : Prop := tk_G RX6 cX6_weight 3 (some .long) d pc vals σ (tk_l Q)
set_option maxHeartbeats 4000000 in
set_option maxRecDepth 100000 in
theorem b_X6_weight_0 (d : Nat) (x1 : Int32) (x2 : Int32) (σ : tk_S) (Q : Int64 → tk_S → Prop) (h : vp_in x2 4 ∧ (p_X6_placeOf d [aI x1] σ (fun y4 σ3 => Q (((Int32.toInt64 (σ.1 32 (Int32.toNatClampNeg x2))) <<< (Int32.toInt64 24 &&& 63)) + ((Int32.toInt64 x2) <<< (Int32.toInt64 y4 &&& 63))) σ3))) : g_X6_weight (d + 1) 0 [(0, aN 30), (1, aI x1), (2, aI x2)] σ Q := by
  intro p l e s m args below meth c D cy ad base H locs ls C w hl
  obtain ⟨hx, hb, hml, hown, hts, hr, hlk⟩ := id C
  have hl : lv_has ls 3 [(0, .ref (ad 30)), (1, .int x1), (2, .int x2)] := hl
  refine lv_aload_n hx hb dX6_weight_0 rfl (lv_at hl 0 rfl) ?_
  refine tk_get (k := 30) (v := .ref (ad 32)) hx hb hts hown w rfl rfl inlX6 1 (by decide) mw_74 rfl dX6_weight_1 ?_
  refine lv_iload_n hx hb dX6_weight_4 rfl (lv_at hl 2 rfl) ?_
  obtain ⟨hi1, h⟩ := h
  refine tk_iald (k := 32) hx hb w rfl hi1 dX6_weight_5 ?_
  refine lv_i2l hx hb dX6_weight_6 rfl ?_
  refine lv_bipush (v := 24) hx hb dX6_weight_7 (by decide) ?_
  refine lv_lshl hx hb dX6_weight_9 rfl ?_
  refine lv_iload_n hx hb dX6_weight_10 rfl (lv_at hl 2 rfl) ?_
  refine lv_i2l hx hb dX6_weight_11 rfl ?_
  refine lv_iload_n hx hb dX6_weight_12 rfl (lv_at hl 1 rfl) ?_
  refine tk_cS C w (as := [aI x1]) (rest := [.long (Int32.toInt64 x2), .long ((Int32.toInt64 (σ.1 32 (Int32.toNatClampNeg x2))) <<< (Int32.toInt64 24 &&& 63))]) mw_601 mw_39 mw_599 mw_600 hd_X6_placeOf (by decide) hl.1 (Nat.le_of_ble_eq_true rfl) rfl dX6_weight_13 h (fun r2 σ3 H locs hq w => ?_)
  obtain ⟨y4, rfl, h⟩ := hq
  refine W.eq (g2 := F0 m 16 ls [.int y4, .long (Int32.toInt64 x2), .long ((Int32.toInt64 (σ.1 32 (Int32.toNatClampNeg x2))) <<< (Int32.toInt64 24 &&& 63))]) rfl ?_
  refine lv_lshl hx hb dX6_weight_16 rfl ?_
  refine lv_ladd hx hb dX6_weight_17 ?_
  exact tk_retl C w dX6_weight_18 h
theorem e_X6_weight (d : Nat) (x1 : Int32) (x2 : Int32) {σ : tk_S} {Q : Int64 → tk_S → Prop} (h : g_X6_weight d 0 [(0, aN 30), (1, aI x1), (2, aI x2)] σ Q) : p_X6_weight d [aN 30, aI x1, aI x2] σ Q := tk_entry (by decide) rfl (fun _ => Nat.le_of_ble_eq_true rfl) (fun _ => rfl) h
abbrev g_X6_rankTextures (d pc : Nat) (vals : List (Nat × tk_V)) (σ : tk_S) (Q : tk_S → Prop) : Prop := tk_G RX6 cX6_rankTextures 5 none d pc vals σ (tk_v Q)
set_option maxHeartbeats 4000000 in
set_option maxRecDepth 100000 in
theorem b_X6_rankTextures_92 (d : Nat) (x1 : Int32) (σ : tk_S) (Q : tk_S → Prop) (h : (15 < x1 → Q σ) ∧ (¬ 15 < x1 → p_X6_firstByPrice d [aN 30, aI x1] σ (fun y4 σ3 => vp_in x1 16 ∧ (g_X6_rankTextures (d + 1) 92 [(0, aN 30), (1, aI (x1 + 1))] (tk_up σ3 35 (Int32.toNatClampNeg x1) y4) Q)))) : g_X6_rankTextures (d + 1) 92 [(0, aN 30), (1, aI x1)] σ Q := by
  intro p l e s m args below meth c D cy ad base H locs ls C w hl
  obtain ⟨hx, hb, hml, hown, hts, hr, hlk⟩ := id C
  have hl : lv_has ls 5 [(0, .ref (ad 30)), (1, .int x1)] := hl
  refine lv_iload_n hx hb dX6_rankTextures_92 rfl (lv_at hl 1 rfl) ?_
  refine lv_bipush (v := 15) hx hb dX6_rankTextures_93 (by decide) ?_
  refine lv_icmp_gt (tgt := 115) hx hb dX6_rankTextures_95 (by decide) (fun c1 => ?_) (fun c1 => ?_)
  · have h := h.1 c1
    exact tk_retv C w dX6_rankTextures_115 h
  · have h := h.2 c1
    refine lv_aload_n hx hb dX6_rankTextures_98 rfl (lv_at hl 0 rfl) ?_
    refine tk_get (k := 30) (v := .ref (ad 35)) hx hb hts hown w rfl rfl inlX6 4 (by decide) mw_77 rfl dX6_rankTextures_99 ?_
    refine lv_iload_n hx hb dX6_rankTextures_102 rfl (lv_at hl 1 rfl) ?_
    refine lv_aload_n hx hb dX6_rankTextures_103 rfl (lv_at hl 0 rfl) ?_
    refine lv_iload_n hx hb dX6_rankTextures_104 rfl (lv_at hl 1 rfl) ?_
    refine tk_cV C w (k := 30) rfl rfl (as := [aI x1]) (rest := [.int x1, .ref (ad 35)]) mw_586 mw_39 mw_583 mw_584 mw_585 hd_X6_firstByPrice (by decide) hl.1 (Nat.le_of_ble_eq_true rfl) rfl dX6_rankTextures_105 h (fun r2 σ3 H locs hq w => ?_)
    obtain ⟨y4, rfl, h⟩ := hq
    refine W.eq (g2 := F0 m 108 ls [.int y4, .int x1, .ref (ad 35)]) rfl ?_
    obtain ⟨hi5, h⟩ := h
    refine tk_iast (k := 35) hx hb w rfl hi5 dX6_rankTextures_108 (fun H locs w => ?_)
    refine lv_iinc (v := x1 + 1) (lv' := [(1, .int (x1 + 1)), (0, .ref (ad 30))]) hx hb dX6_rankTextures_109 hl (k := 1) rfl rfl (by decide) rfl (fun ls hl => ?_)
    refine lv_goto (tgt := 92) hx hb dX6_rankTextures_112 (by decide) ?_
    exact h _ _ _ _ _ _ _ _ _ _ _ _ _ _ _ _ C w (lv_sub hl [1, 0] rfl)
set_option maxHeartbeats 4000000 in
set_option maxRecDepth 100000 in
theorem b_X6_rankTextures_11 (d : Nat) (x1 : Int32) (x2 : Int32) (x3 : Int32) (σ : tk_S) (Q : tk_S → Prop) (h : (4 ≤ x3 → vp_in x2 4 ∧ (g_X6_rankTextures (d + 1) 2 [(0, aN 30), (1, aI (x1 + 1))] (tk_up σ 34 (Int32.toNatClampNeg x2) x1) Q)) ∧ (¬ 4 ≤ x3 → vp_in x3 4 ∧ (vp_in x1 4 ∧ (((σ.1 32 (Int32.toNatClampNeg x3)) < (σ.1 32 (Int32.toNatClampNeg x1)) → g_X6_rankTextures (d + 1) 11 [(0, aN 30), (1, aI x1), (2, aI (x2 + 1)), (3, aI (x3 + 1))] σ Q) ∧ (¬ (σ.1 32 (Int32.toNatClampNeg x3)) < (σ.1 32 (Int32.toNatClampNeg x1)) → vp_in x3 4 ∧ (vp_in x1 4 ∧ ((¬ (σ.1 32 (Int32.toNatClampNeg x3)) = (σ.1 32 (Int32.toNatClampNeg x1)) → g_X6_rankTextures (d + 1) 11 [(0, aN 30), (1, aI x1), (2, aI (x2 + 0)), (3, aI (x3 + 1))] σ Q) ∧ ((σ.1 32 (Int32.toNatClampNeg x3)) = (σ.1 32 (Int32.toNatClampNeg x1)) → (x1 ≤ x3 → g_X6_rankTextures (d + 1) 11 [(0, aN 30), (1, aI x1), (2, aI (x2 + 0)), (3, aI (x3 + 1))] σ Q) ∧ (¬ x1 ≤ x3 → g_X6_rankTextures (d + 1) 11 [(0, aN 30), (1, aI x1), (2, aI (x2 + 1)), (3, aI (x3 + 1))] σ Q))))))))) : g_X6_rankTextures (d + 1) 11 [(0, aN 30), (1, aI x1), (2, aI x2), (3, aI x3)] σ Q := by
  intro p l e s m args below meth c D cy ad base H locs ls C w hl
  obtain ⟨hx, hb, hml, hown, hts, hr, hlk⟩ := id C
  have hl : lv_has ls 5 [(0, .ref (ad 30)), (1, .int x1), (2, .int x2), (3, .int x3)] := hl
  refine lv_iload_n hx hb dX6_rankTextures_11 rfl (lv_at hl 3 rfl) ?_
  refine lv_iconst (v := 4) hx hb dX6_rankTextures_12 (by decide) ?_
  refine lv_icmp_ge (tgt := 77) hx hb dX6_rankTextures_13 (by decide) (fun c1 => ?_) (fun c1 => ?_)
  · have h := h.1 c1
    refine lv_aload_n hx hb dX6_rankTextures_77 rfl (lv_at hl 0 rfl) ?_
    refine tk_get (k := 30) (v := .ref (ad 34)) hx hb hts hown w rfl rfl inlX6 3 (by decide) mw_76 rfl dX6_rankTextures_78 ?_
    refine lv_iload_n hx hb dX6_rankTextures_81 rfl (lv_at hl 2 rfl) ?_
    refine lv_iload_n hx hb dX6_rankTextures_82 rfl (lv_at hl 1 rfl) ?_
    obtain ⟨hi2, h⟩ := h
    refine tk_iast (k := 34) hx hb w rfl hi2 dX6_rankTextures_83 (fun H locs w => ?_)
    refine lv_iinc (v := x1 + 1) (lv' := [(1, .int (x1 + 1)), (0, .ref (ad 30)), (2, .int x2), (3, .int x3)]) hx hb dX6_rankTextures_84 hl (k := 1) rfl rfl (by decide) rfl (fun ls hl => ?_)
    refine lv_goto (tgt := 2) hx hb dX6_rankTextures_87 (by decide) ?_
    exact h _ _ _ _ _ _ _ _ _ _ _ _ _ _ _ _ C w (lv_sub hl [1, 0] rfl)
  · have h := h.2 c1
    refine lv_aload_n hx hb dX6_rankTextures_16 rfl (lv_at hl 0 rfl) ?_
    refine tk_get (k := 30) (v := .ref (ad 32)) hx hb hts hown w rfl rfl inlX6 1 (by decide) mw_74 rfl dX6_rankTextures_17 ?_
    refine lv_iload_n hx hb dX6_rankTextures_20 rfl (lv_at hl 3 rfl) ?_
    obtain ⟨hi3, h⟩ := h
    refine tk_iald (k := 32) hx hb w rfl hi3 dX6_rankTextures_21 ?_
    refine lv_aload_n hx hb dX6_rankTextures_22 rfl (lv_at hl 0 rfl) ?_
    refine tk_get (k := 30) (v := .ref (ad 32)) hx hb hts hown w rfl rfl inlX6 1 (by decide) mw_74 rfl dX6_rankTextures_23 ?_
    refine lv_iload_n hx hb dX6_rankTextures_26 rfl (lv_at hl 1 rfl) ?_
    obtain ⟨hi4, h⟩ := h
    refine tk_iald (k := 32) hx hb w rfl hi4 dX6_rankTextures_27 ?_
    refine lv_icmp_lt (tgt := 51) hx hb dX6_rankTextures_28 (by decide) (fun c5 => ?_) (fun c5 => ?_)
    · have h := h.1 c5
      refine lv_iconst (v := 1) hx hb dX6_rankTextures_51 (by decide) ?_
      refine lv_goto (tgt := 56) hx hb dX6_rankTextures_52 (by decide) ?_
      refine lv_istore (lv' := [(4, .int 1), (0, .ref (ad 30)), (1, .int x1), (2, .int x2), (3, .int x3)]) hx hb dX6_rankTextures_56 hl (by decide) rfl (fun ls hl => ?_)
      refine lv_iload_n hx hb dX6_rankTextures_58 rfl (lv_at hl 3 rfl) ?_
      refine lv_iload hx hb dX6_rankTextures_59 (lv_at hl 0 rfl) ?_
      refine lv_if_eq (tgt := 68) hx hb dX6_rankTextures_61 (by decide) (fun c6 => absurd c6 (by decide)) (fun c6 => ?_)
      refine lv_iconst (v := 1) hx hb dX6_rankTextures_64 (by decide) ?_
      refine lv_goto (tgt := 69) hx hb dX6_rankTextures_65 (by decide) ?_
      refine lv_iadd hx hb dX6_rankTextures_69 ?_
      refine lv_istore_n (lv' := [(2, .int (x2 + 1)), (4, .int 1), (0, .ref (ad 30)), (1, .int x1), (3, .int x3)]) hx hb dX6_rankTextures_70 rfl hl (by decide) rfl (fun ls hl => ?_)
      refine lv_iinc (v := x3 + 1) (lv' := [(3, .int (x3 + 1)), (2, .int (x2 + 1)), (4, .int 1), (0, .ref (ad 30)), (1, .int x1)]) hx hb dX6_rankTextures_71 hl (k := 4) rfl rfl (by decide) rfl (fun ls hl => ?_)
      refine lv_goto (tgt := 11) hx hb dX6_rankTextures_74 (by decide) ?_
      exact h _ _ _ _ _ _ _ _ _ _ _ _ _ _ _ _ C w (lv_sub hl [3, 4, 1, 0] rfl)
    · have h := h.2 c5
      refine lv_aload_n hx hb dX6_rankTextures_31 rfl (lv_at hl 0 rfl) ?_
      refine tk_get (k := 30) (v := .ref (ad 32)) hx hb hts hown w rfl rfl inlX6 1 (by decide) mw_74 rfl dX6_rankTextures_32 ?_
      refine lv_iload_n hx hb dX6_rankTextures_35 rfl (lv_at hl 3 rfl) ?_
      obtain ⟨hi7, h⟩ := h
      refine tk_iald (k := 32) hx hb w rfl hi7 dX6_rankTextures_36 ?_
      refine lv_aload_n hx hb dX6_rankTextures_37 rfl (lv_at hl 0 rfl) ?_
      refine tk_get (k := 30) (v := .ref (ad 32)) hx hb hts hown w rfl rfl inlX6 1 (by decide) mw_74 rfl dX6_rankTextures_38 ?_
      refine lv_iload_n hx hb dX6_rankTextures_41 rfl (lv_at hl 1 rfl) ?_
      obtain ⟨hi8, h⟩ := h
      refine tk_iald (k := 32) hx hb w rfl hi8 dX6_rankTextures_42 ?_
      refine lv_icmp_ne (tgt := 55) hx hb dX6_rankTextures_43 (by decide) (fun c9 => ?_) (fun c9 => ?_)
      · have h := h.1 c9
        refine lv_iconst (v := 0) hx hb dX6_rankTextures_55 (by decide) ?_
        refine lv_istore (lv' := [(4, .int 0), (0, .ref (ad 30)), (1, .int x1), (2, .int x2), (3, .int x3)]) hx hb dX6_rankTextures_56 hl (by decide) rfl (fun ls hl => ?_)
        refine lv_iload_n hx hb dX6_rankTextures_58 rfl (lv_at hl 3 rfl) ?_
        refine lv_iload hx hb dX6_rankTextures_59 (lv_at hl 0 rfl) ?_
        refine lv_if_eq (tgt := 68) hx hb dX6_rankTextures_61 (by decide) (fun c10 => ?_) (fun c10 => absurd (by decide) c10)
        refine lv_iconst (v := 0) hx hb dX6_rankTextures_68 (by decide) ?_
        refine lv_iadd hx hb dX6_rankTextures_69 ?_
        refine lv_istore_n (lv' := [(2, .int (x2 + 0)), (4, .int 0), (0, .ref (ad 30)), (1, .int x1), (3, .int x3)]) hx hb dX6_rankTextures_70 rfl hl (by decide) rfl (fun ls hl => ?_)
        refine lv_iinc (v := x3 + 1) (lv' := [(3, .int (x3 + 1)), (2, .int (x2 + 0)), (4, .int 0), (0, .ref (ad 30)), (1, .int x1)]) hx hb dX6_rankTextures_71 hl (k := 4) rfl rfl (by decide) rfl (fun ls hl => ?_)
        refine lv_goto (tgt := 11) hx hb dX6_rankTextures_74 (by decide) ?_
        exact h _ _ _ _ _ _ _ _ _ _ _ _ _ _ _ _ C w (lv_sub hl [3, 4, 1, 0] rfl)
      · have h := h.2 c9
        refine lv_iload_n hx hb dX6_rankTextures_46 rfl (lv_at hl 3 rfl) ?_
        refine lv_iload_n hx hb dX6_rankTextures_47 rfl (lv_at hl 1 rfl) ?_
        refine lv_icmp_ge (tgt := 55) hx hb dX6_rankTextures_48 (by decide) (fun c11 => ?_) (fun c11 => ?_)
        · have h := h.1 c11
          refine lv_iconst (v := 0) hx hb dX6_rankTextures_55 (by decide) ?_
          refine lv_istore (lv' := [(4, .int 0), (0, .ref (ad 30)), (1, .int x1), (2, .int x2), (3, .int x3)]) hx hb dX6_rankTextures_56 hl (by decide) rfl (fun ls hl => ?_)
          refine lv_iload_n hx hb dX6_rankTextures_58 rfl (lv_at hl 3 rfl) ?_
          refine lv_iload hx hb dX6_rankTextures_59 (lv_at hl 0 rfl) ?_
          refine lv_if_eq (tgt := 68) hx hb dX6_rankTextures_61 (by decide) (fun c12 => ?_) (fun c12 => absurd (by decide) c12)
          refine lv_iconst (v := 0) hx hb dX6_rankTextures_68 (by decide) ?_
          refine lv_iadd hx hb dX6_rankTextures_69 ?_
          refine lv_istore_n (lv' := [(2, .int (x2 + 0)), (4, .int 0), (0, .ref (ad 30)), (1, .int x1), (3, .int x3)]) hx hb dX6_rankTextures_70 rfl hl (by decide) rfl (fun ls hl => ?_)
          refine lv_iinc (v := x3 + 1) (lv' := [(3, .int (x3 + 1)), (2, .int (x2 + 0)), (4, .int 0), (0, .ref (ad 30)), (1, .int x1)]) hx hb dX6_rankTextures_71 hl (k := 4) rfl rfl (by decide) rfl (fun ls hl => ?_)
          refine lv_goto (tgt := 11) hx hb dX6_rankTextures_74 (by decide) ?_
          exact h _ _ _ _ _ _ _ _ _ _ _ _ _ _ _ _ C w (lv_sub hl [3, 4, 1, 0] rfl)
        · have h := h.2 c11
          refine lv_iconst (v := 1) hx hb dX6_rankTextures_51 (by decide) ?_
          refine lv_goto (tgt := 56) hx hb dX6_rankTextures_52 (by decide) ?_
          refine lv_istore (lv' := [(4, .int 1), (0, .ref (ad 30)), (1, .int x1), (2, .int x2), (3, .int x3)]) hx hb dX6_rankTextures_56 hl (by decide) rfl (fun ls hl => ?_)
          refine lv_iload_n hx hb dX6_rankTextures_58 rfl (lv_at hl 3 rfl) ?_
          refine lv_iload hx hb dX6_rankTextures_59 (lv_at hl 0 rfl) ?_
          refine lv_if_eq (tgt := 68) hx hb dX6_rankTextures_61 (by decide) (fun c13 => absurd c13 (by decide)) (fun c13 => ?_)
          refine lv_iconst (v := 1) hx hb dX6_rankTextures_64 (by decide) ?_
          refine lv_goto (tgt := 69) hx hb dX6_rankTextures_65 (by decide) ?_
          refine lv_iadd hx hb dX6_rankTextures_69 ?_
          refine lv_istore_n (lv' := [(2, .int (x2 + 1)), (4, .int 1), (0, .ref (ad 30)), (1, .int x1), (3, .int x3)]) hx hb dX6_rankTextures_70 rfl hl (by decide) rfl (fun ls hl => ?_)
          refine lv_iinc (v := x3 + 1) (lv' := [(3, .int (x3 + 1)), (2, .int (x2 + 1)), (4, .int 1), (0, .ref (ad 30)), (1, .int x1)]) hx hb dX6_rankTextures_71 hl (k := 4) rfl rfl (by decide) rfl (fun ls hl => ?_)
          refine lv_goto (tgt := 11) hx hb dX6_rankTextures_74 (by decide) ?_
          exact h _ _ _ _ _ _ _ _ _ _ _ _ _ _ _ _ C w (lv_sub hl [3, 4, 1, 0] rfl)
set_option maxHeartbeats 4000000 in
set_option maxRecDepth 100000 in
theorem b_X6_rankTextures_2 (d : Nat) (x1 : Int32) (σ : tk_S) (Q : tk_S → Prop) (h : (4 ≤ x1 → g_X6_rankTextures (d + 1) 92 [(0, aN 30), (1, aI 1)] σ Q) ∧ (¬ 4 ≤ x1 → g_X6_rankTextures (d + 1) 11 [(0, aN 30), (1, aI x1), (2, aI 0), (3, aI 0)] σ Q)) : g_X6_rankTextures (d + 1) 2 [(0, aN 30), (1, aI x1)] σ Q := by
  intro p l e s m args below meth c D cy ad base H locs ls C w hl
  obtain ⟨hx, hb, hml, hown, hts, hr, hlk⟩ := id C
  have hl : lv_has ls 5 [(0, .ref (ad 30)), (1, .int x1)] := hl
  refine lv_iload_n hx hb dX6_rankTextures_2 rfl (lv_at hl 1 rfl) ?_
  refine lv_iconst (v := 4) hx hb dX6_rankTextures_3 (by decide) ?_
  refine lv_icmp_ge (tgt := 90) hx hb dX6_rankTextures_4 (by decide) (fun c1 => ?_) (fun c1 => ?_)
  · have h := h.1 c1
    refine lv_iconst (v := 1) hx hb dX6_rankTextures_90 (by decide) ?_
    refine lv_istore_n (lv' := [(1, .int 1), (0, .ref (ad 30))]) hx hb dX6_rankTextures_91 rfl hl (by decide) rfl (fun ls hl => ?_)
    exact h _ _ _ _ _ _ _ _ _ _ _ _ _ _ _ _ C w (lv_sub hl [1, 0] rfl)
  · have h := h.2 c1
    refine lv_iconst (v := 0) hx hb dX6_rankTextures_7 (by decide) ?_
    refine lv_istore_n (lv' := [(2, .int 0), (0, .ref (ad 30)), (1, .int x1)]) hx hb dX6_rankTextures_8 rfl hl (by decide) rfl (fun ls hl => ?_)
    refine lv_iconst (v := 0) hx hb dX6_rankTextures_9 (by decide) ?_
    refine lv_istore_n (lv' := [(3, .int 0), (2, .int 0), (0, .ref (ad 30)), (1, .int x1)]) hx hb dX6_rankTextures_10 rfl hl (by decide) rfl (fun ls hl => ?_)
    exact h _ _ _ _ _ _ _ _ _ _ _ _ _ _ _ _ C w (lv_sub hl [2, 3, 1, 0] rfl)
set_option maxHeartbeats 4000000 in
set_option maxRecDepth 100000 in
theorem b_X6_rankTextures_0 (d : Nat)  (σ : tk_S) (Q : tk_S → Prop) (h : g_X6_rankTextures (d + 1) 2 [(0, aN 30), (1, aI 0)] σ Q) : g_X6_rankTextures (d + 1) 0 [(0, aN 30)] σ Q := by
  intro p l e s m args below meth c D cy ad base H locs ls C w hl
  obtain ⟨hx, hb, hml, hown, hts, hr, hlk⟩ := id C
  have hl : lv_has ls 5 [(0, .ref (ad 30))] := hl
  refine lv_iconst (v := 0) hx hb dX6_rankTextures_0 (by decide) ?_
  refine lv_istore_n (lv' := [(1, .int 0), (0, .ref (ad 30))]) hx hb dX6_rankTextures_1 rfl hl (by decide) rfl (fun ls hl => ?_)
  exact h _ _ _ _ _ _ _ _ _ _ _ _ _ _ _ _ C w (lv_sub hl [1, 0] rfl)
theorem e_X6_rankTextures (d : Nat)  {σ : tk_S} {Q : tk_S → Prop} (h : g_X6_rankTextures d 0 [(0, aN 30)] σ Q) : p_X6_rankTextures d [aN 30] σ Q := tk_entry (by decide) rfl (fun _ => Nat.le_of_ble_eq_true rfl) (fun _ => rfl) h
abbrev g_X6_firstByPrice (d pc : Nat) (vals : List (Nat × tk_V)) (σ : tk_S) (Q : Int32 → tk_S → Prop) : Prop := tk_G RX6 cX6_firstByPrice 3 (some .int) d pc vals σ (tk_i Q)
set_option maxHeartbeats 4000000 in
set_option maxRecDepth 100000 in
theorem b_X6_firstByPrice_2 (d : Nat) (x1 : Int32) (x2 : Int32) (σ : tk_S) (Q : Int32 → tk_S → Prop) (h : (4 ≤ x2 → Q 0 σ) ∧ (¬ 4 ≤ x2 → vp_in x2 4 ∧ (p_X7_has d [aI x1, aI (σ.1 34 (Int32.toNatClampNeg x2))] σ (fun y5 σ4 => (y5 = 0 → g_X6_firstByPrice (d + 1) 2 [(0, aN 30), (1, aI x1), (2, aI (x2 + 1))] σ4 Q) ∧ (¬ y5 = 0 → vp_in x2 4 ∧ (Q (σ4.1 34 (Int32.toNatClampNeg x2)) σ4)))))) : g_X6_firstByPrice (d + 1) 2 [(0, aN 30), (1, aI x1), (2, aI x2)] σ Q := by
  intro p l e s m args below meth c D cy ad base H locs ls C w hl
  obtain ⟨hx, hb, hml, hown, hts, hr, hlk⟩ := id C
  have hl : lv_has ls 3 [(0, .ref (ad 30)), (1, .int x1), (2, .int x2)] := hl
  refine lv_iload_n hx hb dX6_firstByPrice_2 rfl (lv_at hl 2 rfl) ?_
  refine lv_iconst (v := 4) hx hb dX6_firstByPrice_3 (by decide) ?_
  refine lv_icmp_ge (tgt := 33) hx hb dX6_firstByPrice_4 (by decide) (fun c1 => ?_) (fun c1 => ?_)
  · have h := h.1 c1
    refine lv_iconst (v := 0) hx hb dX6_firstByPrice_33 (by decide) ?_
    exact tk_reti C w dX6_firstByPrice_34 h
  · have h := h.2 c1
    refine lv_iload_n hx hb dX6_firstByPrice_7 rfl (lv_at hl 1 rfl) ?_
    refine lv_aload_n hx hb dX6_firstByPrice_8 rfl (lv_at hl 0 rfl) ?_
    refine tk_get (k := 30) (v := .ref (ad 34)) hx hb hts hown w rfl rfl inlX6 3 (by decide) mw_76 rfl dX6_firstByPrice_9 ?_
    refine lv_iload_n hx hb dX6_firstByPrice_12 rfl (lv_at hl 2 rfl) ?_
    obtain ⟨hi2, h⟩ := h
    refine tk_iald (k := 34) hx hb w rfl hi2 dX6_firstByPrice_13 ?_
    refine tk_cSN C w (as := [aI x1, aI (σ.1 34 (Int32.toNatClampNeg x2))]) (rest := []) mw_216 mw_2 (List.mem_of_getElem? (i := 13) rfl) mw_215 hd_X7_has (by decide) hl.1 (Nat.le_of_ble_eq_true rfl) rfl dX6_firstByPrice_14 h (fun r3 σ4 H locs hq w => ?_)
    obtain ⟨y5, rfl, h⟩ := hq
    refine W.eq (g2 := F0 m 17 ls [.int y5]) rfl ?_
    refine lv_if_eq (tgt := 27) hx hb dX6_firstByPrice_17 (by decide) (fun c6 => ?_) (fun c6 => ?_)
    · have h := h.1 c6
      refine lv_iinc (v := x2 + 1) (lv' := [(2, .int (x2 + 1)), (0, .ref (ad 30)), (1, .int x1)]) hx hb dX6_firstByPrice_27 hl (k := 2) rfl rfl (by decide) rfl (fun ls hl => ?_)
      refine lv_goto (tgt := 2) hx hb dX6_firstByPrice_30 (by decide) ?_
      exact h _ _ _ _ _ _ _ _ _ _ _ _ _ _ _ _ C w (lv_sub hl [1, 2, 0] rfl)
    · have h := h.2 c6
      refine lv_aload_n hx hb dX6_firstByPrice_20 rfl (lv_at hl 0 rfl) ?_
      refine tk_get (k := 30) (v := .ref (ad 34)) hx hb hts hown w rfl rfl inlX6 3 (by decide) mw_76 rfl dX6_firstByPrice_21 ?_
      refine lv_iload_n hx hb dX6_firstByPrice_24 rfl (lv_at hl 2 rfl) ?_
      obtain ⟨hi7, h⟩ := h
      refine tk_iald (k := 34) hx hb w rfl hi7 dX6_firstByPrice_25 ?_
      exact tk_reti C w dX6_firstByPrice_26 h
set_option maxHeartbeats 4000000 in
set_option maxRecDepth 100000 in
theorem b_X6_firstByPrice_0 (d : Nat) (x1 : Int32) (σ : tk_S) (Q : Int32 → tk_S → Prop) (h : g_X6_firstByPrice (d + 1) 2 [(0, aN 30), (1, aI x1), (2, aI 0)] σ Q) : g_X6_firstByPrice (d + 1) 0 [(0, aN 30), (1, aI x1)] σ Q := by
  intro p l e s m args below meth c D cy ad base H locs ls C w hl
  obtain ⟨hx, hb, hml, hown, hts, hr, hlk⟩ := id C
  have hl : lv_has ls 3 [(0, .ref (ad 30)), (1, .int x1)] := hl
  refine lv_iconst (v := 0) hx hb dX6_firstByPrice_0 (by decide) ?_
  refine lv_istore_n (lv' := [(2, .int 0), (0, .ref (ad 30)), (1, .int x1)]) hx hb dX6_firstByPrice_1 rfl hl (by decide) rfl (fun ls hl => ?_)
  exact h _ _ _ _ _ _ _ _ _ _ _ _ _ _ _ _ C w (lv_sub hl [1, 2, 0] rfl)
theorem e_X6_firstByPrice (d : Nat) (x1 : Int32) {σ : tk_S} {Q : Int32 → tk_S → Prop} (h : g_X6_firstByPrice d 0 [(0, aN 30), (1, aI x1)] σ Q) : p_X6_firstByPrice d [aN 30, aI x1] σ Q := tk_entry (by decide) rfl (fun _ => Nat.le_of_ble_eq_true rfl) (fun _ => rfl) h
abbrev g_X6_leastBelow (d pc : Nat) (vals : List (Nat × tk_V)) (σ : tk_S) (Q : Int64 → tk_S → Prop) : Prop := tk_G RX6 cX6_leastBelow 13 (some .long) d pc vals σ (tk_l Q)
set_option maxHeartbeats 4000000 in
set_option maxRecDepth 100000 in
theorem b_X6_leastBelow_20 (d : Nat) (x1 : Int64) (x4 : Int32) (x5 : Int64) (x7 : Int32) (x8 : Int32) (σ : tk_S) (Q : Int64 → tk_S → Prop) (h : (12 ≤ x8 → (0 ≤ (lg_cmp x5 x1) → Q 1152921504606846976 σ) ∧ (¬ 0 ≤ (lg_cmp x5 x1) → Q x5 σ)) ∧ (¬ 12 ≤ x8 → (0 ≤ (lg_cmp x5 x1) → (0 ≤ (lg_cmp x5 x1) → Q 1152921504606846976 σ) ∧ (¬ 0 ≤ (lg_cmp x5 x1) → Q x5 σ)) ∧ (¬ 0 ≤ (lg_cmp x5 x1) → vp_in x4 13 ∧ (p_X6_clashing d [aN 30, aI x7, aN (37 + 1 + 1 * Int32.toNatClampNeg x4)] σ (fun y8 σ7 => (¬ y8 = (-1) → p_X6_groupOf d [aN 30, aI y8, aI x7] σ7 (fun y12 σ11 => ∀ z13 : Int32, z13 = x7 &&& (y12 ^^^ (-1)) → (vp_in x4 13 ∧ (p_X6_cheapestWeight d [aN 30, aI y12, aN (37 + 1 + 1 * Int32.toNatClampNeg x4)] σ11 (fun y17 σ16 => ∀ z18 : Int64, z18 = x5 - y17 → (p_X6_tryEach d [aN 30, aL (x1 - z18), aI y8, aI y12, aI x4] σ16 (fun y21 σ20 => (¬ (lg_cmp y21 1152921504606846976) = 0 → ∀ z23 : Int64, z23 = z18 + y21 → (g_X6_leastBelow (d + 1) 20 [(0, aN 30), (1, aL x1), (4, aI x4), (5, aL z23), (7, aI z13), (8, aI (x8 + 1))] σ20 Q)) ∧ ((lg_cmp y21 1152921504606846976) = 0 → g_X6_leastBelow (d + 1) 20 [(0, aN 30), (1, aL x1), (4, aI x4), (5, aL 1152921504606846976), (7, aI z13), (8, aI (x8 + 1))] σ20 Q)))))))) ∧ (y8 = (-1) → Q x5 σ7)))))) : g_X6_leastBelow (d + 1) 20 [(0, aN 30), (1, aL x1), (4, aI x4), (5, aL x5), (7, aI x7), (8, aI x8)] σ Q := by
  intro p l e s m args below meth c D cy ad base H locs ls C w hl
  obtain ⟨hx, hb, hml, hown, hts, hr, hlk⟩ := id C
  have hl : lv_has ls 13 [(0, .ref (ad 30)), (1, .long x1), (4, .int x4), (5, .long x5), (7, .int x7), (8, .int x8)] := hl
  refine lv_iload hx hb dX6_leastBelow_20 (lv_at hl 5 rfl) ?_
  refine lv_bipush (v := 12) hx hb dX6_leastBelow_22 (by decide) ?_
  refine lv_icmp_ge (tgt := 139) hx hb dX6_leastBelow_24 (by decide) (fun c1 => ?_) (fun c1 => ?_)
  · have h := h.1 c1
    refine lv_lload hx hb dX6_leastBelow_139 (lv_at hl 3 rfl) ?_
    refine lv_lload_n hx hb dX6_leastBelow_141 rfl (lv_at hl 1 rfl) ?_
    refine W.lcmp hx hb dX6_leastBelow_142 ?_
    refine lv_if_ge (tgt := 151) hx hb dX6_leastBelow_143 (by decide) (fun c2 => ?_) (fun c2 => ?_)
    · have h := h.1 c2
      refine lv_ldc2 (v := 1152921504606846976) hx hb hown (hts _ mw_577) dX6_leastBelow_151 ?_
      exact tk_retl C w dX6_leastBelow_154 h
    · have h := h.2 c2
      refine lv_lload hx hb dX6_leastBelow_146 (lv_at hl 3 rfl) ?_
      refine lv_goto (tgt := 154) hx hb dX6_leastBelow_148 (by decide) ?_
      exact tk_retl C w dX6_leastBelow_154 h
  · have h := h.2 c1
    refine lv_lload hx hb dX6_leastBelow_27 (lv_at hl 3 rfl) ?_
    refine lv_lload_n hx hb dX6_leastBelow_29 rfl (lv_at hl 1 rfl) ?_
    refine W.lcmp hx hb dX6_leastBelow_30 ?_
    refine lv_if_ge (tgt := 139) hx hb dX6_leastBelow_31 (by decide) (fun c3 => ?_) (fun c3 => ?_)
    · have h := h.1 c3
      refine lv_lload hx hb dX6_leastBelow_139 (lv_at hl 3 rfl) ?_
      refine lv_lload_n hx hb dX6_leastBelow_141 rfl (lv_at hl 1 rfl) ?_
      refine W.lcmp hx hb dX6_leastBelow_142 ?_
      refine lv_if_ge (tgt := 151) hx hb dX6_leastBelow_143 (by decide) (fun c4 => ?_) (fun c4 => ?_)
      · have h := h.1 c4
        refine lv_ldc2 (v := 1152921504606846976) hx hb hown (hts _ mw_577) dX6_leastBelow_151 ?_
        exact tk_retl C w dX6_leastBelow_154 h
      · have h := h.2 c4
        refine lv_lload hx hb dX6_leastBelow_146 (lv_at hl 3 rfl) ?_
        refine lv_goto (tgt := 154) hx hb dX6_leastBelow_148 (by decide) ?_
        exact tk_retl C w dX6_leastBelow_154 h
    · have h := h.2 c3
      refine lv_aload_n hx hb dX6_leastBelow_34 rfl (lv_at hl 0 rfl) ?_
      refine lv_iload hx hb dX6_leastBelow_35 (lv_at hl 4 rfl) ?_
      refine lv_aload_n hx hb dX6_leastBelow_37 rfl (lv_at hl 0 rfl) ?_
      refine tk_get (k := 30) (v := .ref (ad 37)) hx hb hts hown w rfl rfl inlX6 6 (by decide) mw_80 rfl dX6_leastBelow_38 ?_
      refine lv_iload hx hb dX6_leastBelow_41 (lv_at hl 2 rfl) ?_
      obtain ⟨hi5, h⟩ := h
      refine tk_aald (k := 37) (t := 1) (ty := .array .int) hx hb w rfl (by decide) rfl rfl hi5 dX6_leastBelow_43 ?_
      refine tk_cV C w (k := 30) rfl rfl (as := [aI x7, aN (37 + 1 + 1 * Int32.toNatClampNeg x4)]) (rest := []) mw_605 mw_39 mw_602 mw_603 mw_604 hd_X6_clashing (by decide) hl.1 (Nat.le_of_ble_eq_true rfl) rfl dX6_leastBelow_44 h (fun r6 σ7 H locs hq w => ?_)
      obtain ⟨y8, rfl, h⟩ := hq
      refine W.eq (g2 := F0 m 47 ls [.int y8]) rfl ?_
      refine lv_istore (lv' := [(9, .int y8), (0, .ref (ad 30)), (1, .long x1), (4, .int x4), (5, .long x5), (7, .int x7), (8, .int x8)]) hx hb dX6_leastBelow_47 hl (by decide) rfl (fun ls hl => ?_)
      refine lv_iload hx hb dX6_leastBelow_49 (lv_at hl 0 rfl) ?_
      refine lv_iconst (v := (-1)) hx hb dX6_leastBelow_51 (by decide) ?_
      refine lv_icmp_ne (tgt := 58) hx hb dX6_leastBelow_52 (by decide) (fun c9 => ?_) (fun c9 => ?_)
      · have h := h.1 c9
        refine lv_aload_n hx hb dX6_leastBelow_58 rfl (lv_at hl 1 rfl) ?_
        refine lv_iload hx hb dX6_leastBelow_59 (lv_at hl 0 rfl) ?_
        refine lv_iload hx hb dX6_leastBelow_61 (lv_at hl 5 rfl) ?_
        refine tk_cV C w (k := 30) rfl rfl (as := [aI y8, aI x7]) (rest := []) mw_618 mw_39 mw_615 mw_616 mw_617 hd_X6_groupOf (by decide) hl.1 (Nat.le_of_ble_eq_true rfl) rfl dX6_leastBelow_63 h (fun r10 σ11 H locs hq w => ?_)
        obtain ⟨y12, rfl, h⟩ := hq
        refine W.eq (g2 := F0 m 66 ls [.int y12]) rfl ?_
        refine lv_istore (lv' := [(10, .int y12), (9, .int y8), (0, .ref (ad 30)), (1, .long x1), (4, .int x4), (5, .long x5), (7, .int x7), (8, .int x8)]) hx hb dX6_leastBelow_66 hl (by decide) rfl (fun ls hl => ?_)
        refine lv_iload hx hb dX6_leastBelow_68 (lv_at hl 6 rfl) ?_
        refine lv_iload hx hb dX6_leastBelow_70 (lv_at hl 0 rfl) ?_
        refine lv_iconst (v := (-1)) hx hb dX6_leastBelow_72 (by decide) ?_
        refine lv_ixor hx hb dX6_leastBelow_73 ?_
        refine lv_iand hx hb dX6_leastBelow_74 ?_
        refine lv_topi (fun z13 e_z13 => ?_)
        have h := h z13 e_z13
        refine lv_istore (lv' := [(7, .int z13), (10, .int y12), (9, .int y8), (0, .ref (ad 30)), (1, .long x1), (4, .int x4), (5, .long x5), (8, .int x8)]) hx hb dX6_leastBelow_75 hl (by decide) rfl (fun ls hl => ?_)
        refine lv_lload hx hb dX6_leastBelow_77 (lv_at hl 6 rfl) ?_
        refine lv_aload_n hx hb dX6_leastBelow_79 rfl (lv_at hl 3 rfl) ?_
        refine lv_iload hx hb dX6_leastBelow_80 (lv_at hl 1 rfl) ?_
        refine lv_aload_n hx hb dX6_leastBelow_82 rfl (lv_at hl 3 rfl) ?_
        refine tk_get (k := 30) (v := .ref (ad 37)) hx hb hts hown w rfl rfl inlX6 6 (by decide) mw_80 rfl dX6_leastBelow_83 ?_
        refine lv_iload hx hb dX6_leastBelow_86 (lv_at hl 5 rfl) ?_
        obtain ⟨hi14, h⟩ := h
        refine tk_aald (k := 37) (t := 1) (ty := .array .int) hx hb w rfl (by decide) rfl rfl hi14 dX6_leastBelow_88 ?_
        refine tk_cV C w (k := 30) rfl rfl (as := [aI y12, aN (37 + 1 + 1 * Int32.toNatClampNeg x4)]) (rest := [.long x5]) mw_594 mw_39 mw_591 mw_592 mw_593 hd_X6_cheapestWeight (by decide) hl.1 (Nat.le_of_ble_eq_true rfl) rfl dX6_leastBelow_89 h (fun r15 σ16 H locs hq w => ?_)
        obtain ⟨y17, rfl, h⟩ := hq
        refine W.eq (g2 := F0 m 92 ls [.long y17, .long x5]) rfl ?_
        refine lv_lsub hx hb dX6_leastBelow_92 ?_
        refine lv_topl (fun z18 e_z18 => ?_)
        have h := h z18 e_z18
        refine lv_lstore (lv' := [(5, .long z18), (7, .int z13), (10, .int y12), (9, .int y8), (0, .ref (ad 30)), (1, .long x1), (4, .int x4), (8, .int x8)]) hx hb dX6_leastBelow_93 hl (by decide) rfl (fun ls hl => ?_)
        refine lv_aload_n hx hb dX6_leastBelow_95 rfl (lv_at hl 4 rfl) ?_
        refine lv_lload_n hx hb dX6_leastBelow_96 rfl (lv_at hl 5 rfl) ?_
        refine lv_lload hx hb dX6_leastBelow_97 (lv_at hl 0 rfl) ?_
        refine lv_lsub hx hb dX6_leastBelow_99 ?_
        refine lv_iload hx hb dX6_leastBelow_100 (lv_at hl 3 rfl) ?_
        refine lv_iload hx hb dX6_leastBelow_102 (lv_at hl 2 rfl) ?_
        refine lv_iload hx hb dX6_leastBelow_104 (lv_at hl 6 rfl) ?_
        refine tk_cV C w (k := 30) rfl rfl (as := [aL (x1 - z18), aI y8, aI y12, aI x4]) (rest := []) mw_622 mw_39 mw_619 mw_620 mw_621 hd_X6_tryEach (by decide) hl.1 (Nat.le_of_ble_eq_true rfl) rfl dX6_leastBelow_106 h (fun r19 σ20 H locs hq w => ?_)
        obtain ⟨y21, rfl, h⟩ := hq
        refine W.eq (g2 := F0 m 109 ls [.long y21]) rfl ?_
        refine lv_lstore (lv' := [(11, .long y21), (5, .long z18), (7, .int z13), (10, .int y12), (9, .int y8), (0, .ref (ad 30)), (1, .long x1), (4, .int x4), (8, .int x8)]) hx hb dX6_leastBelow_109 hl (by decide) rfl (fun ls hl => ?_)
        refine lv_lload hx hb dX6_leastBelow_111 (lv_at hl 0 rfl) ?_
        refine lv_ldc2 (v := 1152921504606846976) hx hb hown (hts _ mw_577) dX6_leastBelow_113 ?_
        refine W.lcmp hx hb dX6_leastBelow_116 ?_
        refine lv_if_ne (tgt := 126) hx hb dX6_leastBelow_117 (by decide) (fun c22 => ?_) (fun c22 => ?_)
        · have h := h.1 c22
          refine lv_lload hx hb dX6_leastBelow_126 (lv_at hl 1 rfl) ?_
          refine lv_lload hx hb dX6_leastBelow_128 (lv_at hl 0 rfl) ?_
          refine lv_ladd hx hb dX6_leastBelow_130 ?_
          refine lv_topl (fun z23 e_z23 => ?_)
          have h := h z23 e_z23
          refine lv_lstore (lv' := [(5, .long z23), (11, .long y21), (7, .int z13), (10, .int y12), (9, .int y8), (0, .ref (ad 30)), (1, .long x1), (4, .int x4), (8, .int x8)]) hx hb dX6_leastBelow_131 hl (by decide) rfl (fun ls hl => ?_)
          refine lv_iinc (v := x8 + 1) (lv' := [(8, .int (x8 + 1)), (5, .long z23), (11, .long y21), (7, .int z13), (10, .int y12), (9, .int y8), (0, .ref (ad 30)), (1, .long x1), (4, .int x4)]) hx hb dX6_leastBelow_133 hl (k := 8) rfl rfl (by decide) rfl (fun ls hl => ?_)
          refine lv_goto (tgt := 20) hx hb dX6_leastBelow_136 (by decide) ?_
          exact h _ _ _ _ _ _ _ _ _ _ _ _ _ _ _ _ C w (lv_sub hl [6, 7, 8, 1, 3, 0] rfl)
        · have h := h.2 c22
          refine lv_ldc2 (v := 1152921504606846976) hx hb hown (hts _ mw_577) dX6_leastBelow_120 ?_
          refine lv_goto (tgt := 131) hx hb dX6_leastBelow_123 (by decide) ?_
          refine lv_lstore (lv' := [(5, .long 1152921504606846976), (11, .long y21), (7, .int z13), (10, .int y12), (9, .int y8), (0, .ref (ad 30)), (1, .long x1), (4, .int x4), (8, .int x8)]) hx hb dX6_leastBelow_131 hl (by decide) rfl (fun ls hl => ?_)
          refine lv_iinc (v := x8 + 1) (lv' := [(8, .int (x8 + 1)), (5, .long 1152921504606846976), (11, .long y21), (7, .int z13), (10, .int y12), (9, .int y8), (0, .ref (ad 30)), (1, .long x1), (4, .int x4)]) hx hb dX6_leastBelow_133 hl (k := 8) rfl rfl (by decide) rfl (fun ls hl => ?_)
          refine lv_goto (tgt := 20) hx hb dX6_leastBelow_136 (by decide) ?_
          exact h _ _ _ _ _ _ _ _ _ _ _ _ _ _ _ _ C w (lv_sub hl [6, 7, 8, 1, 3, 0] rfl)
      · have h := h.2 c9
        refine lv_lload hx hb dX6_leastBelow_55 (lv_at hl 4 rfl) ?_
        exact tk_retl C w dX6_leastBelow_57 h
set_option maxHeartbeats 4000000 in
set_option maxRecDepth 100000 in
theorem b_X6_leastBelow_0 (d : Nat) (x1 : Int64) (x3 : Int32) (x4 : Int32) (σ : tk_S) (Q : Int64 → tk_S → Prop) (h : vp_in x4 13 ∧ (p_X6_cheapestWeight d [aN 30, aI x3, aN (37 + 1 + 1 * Int32.toNatClampNeg x4)] σ (fun y4 σ3 => g_X6_leastBelow (d + 1) 20 [(0, aN 30), (1, aL x1), (4, aI x4), (5, aL y4), (7, aI x3), (8, aI 0)] σ3 Q))) : g_X6_leastBelow (d + 1) 0 [(0, aN 30), (1, aL x1), (3, aI x3), (4, aI x4)] σ Q := by
  intro p l e s m args below meth c D cy ad base H locs ls C w hl
  obtain ⟨hx, hb, hml, hown, hts, hr, hlk⟩ := id C
  have hl : lv_has ls 13 [(0, .ref (ad 30)), (1, .long x1), (3, .int x3), (4, .int x4)] := hl
  refine lv_aload_n hx hb dX6_leastBelow_0 rfl (lv_at hl 0 rfl) ?_
  refine lv_iload_n hx hb dX6_leastBelow_1 rfl (lv_at hl 2 rfl) ?_
  refine lv_aload_n hx hb dX6_leastBelow_2 rfl (lv_at hl 0 rfl) ?_
  refine tk_get (k := 30) (v := .ref (ad 37)) hx hb hts hown w rfl rfl inlX6 6 (by decide) mw_80 rfl dX6_leastBelow_3 ?_
  refine lv_iload hx hb dX6_leastBelow_6 (lv_at hl 3 rfl) ?_
  obtain ⟨hi1, h⟩ := h
  refine tk_aald (k := 37) (t := 1) (ty := .array .int) hx hb w rfl (by decide) rfl rfl hi1 dX6_leastBelow_8 ?_
  refine tk_cV C w (k := 30) rfl rfl (as := [aI x3, aN (37 + 1 + 1 * Int32.toNatClampNeg x4)]) (rest := []) mw_594 mw_39 mw_591 mw_592 mw_593 hd_X6_cheapestWeight (by decide) hl.1 (Nat.le_of_ble_eq_true rfl) rfl dX6_leastBelow_9 h (fun r2 σ3 H locs hq w => ?_)
  obtain ⟨y4, rfl, h⟩ := hq
  refine W.eq (g2 := F0 m 12 ls [.long y4]) rfl ?_
  refine lv_lstore (lv' := [(5, .long y4), (0, .ref (ad 30)), (1, .long x1), (3, .int x3), (4, .int x4)]) hx hb dX6_leastBelow_12 hl (by decide) rfl (fun ls hl => ?_)
  refine lv_iload_n hx hb dX6_leastBelow_14 rfl (lv_at hl 3 rfl) ?_
  refine lv_istore (lv' := [(7, .int x3), (5, .long y4), (0, .ref (ad 30)), (1, .long x1), (3, .int x3), (4, .int x4)]) hx hb dX6_leastBelow_15 hl (by decide) rfl (fun ls hl => ?_)
  refine lv_iconst (v := 0) hx hb dX6_leastBelow_17 (by decide) ?_
  refine lv_istore (lv' := [(8, .int 0), (7, .int x3), (5, .long y4), (0, .ref (ad 30)), (1, .long x1), (3, .int x3), (4, .int x4)]) hx hb dX6_leastBelow_18 hl (by decide) rfl (fun ls hl => ?_)
  exact h _ _ _ _ _ _ _ _ _ _ _ _ _ _ _ _ C w (lv_sub hl [3, 4, 6, 2, 1, 0] rfl)
theorem e_X6_leastBelow (d : Nat) (x1 : Int64) (x3 : Int32) (x4 : Int32) {σ : tk_S} {Q : Int64 → tk_S → Prop} (h : g_X6_leastBelow d 0 [(0, aN 30), (1, aL x1), (3, aI x3), (4, aI x4)] σ Q) : p_X6_leastBelow d [aN 30, aL x1, aI x3, aI x4] σ Q := tk_entry (by decide) rfl (fun _ => Nat.le_of_ble_eq_true rfl) (fun _ => rfl) h
abbrev g_X6_tryEach (d pc : Nat) (vals : List (Nat × tk_V)) (σ : tk_S) (Q : Int64 → tk_S → Prop) : Prop := tk_G RX6 cX6_tryEach 15 (some .long) d pc vals σ (tk_l Q)
set_option maxHeartbeats 4000000 in
set_option maxRecDepth 100000 in
theorem b_X6_tryEach_20 (d : Nat) (x3 : Int32) (x4 : Int32) (x5 : Int32) (x6 : Int64) (x8 : Int32) (x9 : Int32) (σ : tk_S) (Q : Int64 → tk_S → Prop) (h : (4 ≤ x9 → (x8 = 0 → Q 1152921504606846976 σ) ∧ (¬ x8 = 0 → Q x6 σ)) ∧ (¬ 4 ≤ x9 → vp_in x9 4 ∧ (∀ z4 : Int32, z4 = σ.1 34 (Int32.toNatClampNeg x9) → (vp_in x5 13 ∧ (vp_in x3 12 ∧ (p_X7_has d [aI (σ.1 (37 + 1 + 1 * Int32.toNatClampNeg x5) (Int32.toNatClampNeg x3)), aI z4] σ (fun y9 σ8 => (y9 = 0 → g_X6_tryEach (d + 1) 20 [(0, aN 30), (3, aI x3), (4, aI x4), (5, aI x5), (6, aL x6), (8, aI x8), (9, aI (x9 + 1))] σ8 Q) ∧ (¬ y9 = 0 → p_X6_give d [aN 30, aI x3, aI z4, aI x4, aI x5] σ8 (fun σ12 => p_X6_weight d [aN 30, aI x3, aI z4] σ12 (fun y15 σ14 => p_X6_leastBelow d [aN 30, aL (x6 - y15), aI (x4 &&& (((1 : Int32) <<< (x3 &&& 31)) ^^^ (-1))), aI (x5 + 1)] σ14 (fun y18 σ17 => ((lg_cmp y18 1152921504606846976) = 0 → g_X6_tryEach (d + 1) 20 [(0, aN 30), (3, aI x3), (4, aI x4), (5, aI x5), (6, aL x6), (8, aI x8), (9, aI (x9 + 1))] σ17 Q) ∧ (¬ (lg_cmp y18 1152921504606846976) = 0 → ∀ z20 : Int64, z20 = y15 + y18 → (g_X6_tryEach (d + 1) 20 [(0, aN 30), (3, aI x3), (4, aI x4), (5, aI x5), (6, aL z20), (8, aI 1), (9, aI (x9 + 1))] σ17 Q))))))))))))) : g_X6_tryEach (d + 1) 20 [(0, aN 30), (3, aI x3), (4, aI x4), (5, aI x5), (6, aL x6), (8, aI x8), (9, aI x9)] σ Q := by
  intro p l e s m args below meth c D cy ad base H locs ls C w hl
  obtain ⟨hx, hb, hml, hown, hts, hr, hlk⟩ := id C
  have hl : lv_has ls 15 [(0, .ref (ad 30)), (3, .int x3), (4, .int x4), (5, .int x5), (6, .long x6), (8, .int x8), (9, .int x9)] := hl
  refine lv_iload hx hb dX6_tryEach_20 (lv_at hl 6 rfl) ?_
  refine lv_iconst (v := 4) hx hb dX6_tryEach_22 (by decide) ?_
  refine lv_icmp_ge (tgt := 120) hx hb dX6_tryEach_23 (by decide) (fun c1 => ?_) (fun c1 => ?_)
  · have h := h.1 c1
    refine lv_iload hx hb dX6_tryEach_120 (lv_at hl 5 rfl) ?_
    refine lv_if_eq (tgt := 130) hx hb dX6_tryEach_122 (by decide) (fun c2 => ?_) (fun c2 => ?_)
    · have h := h.1 c2
      refine lv_ldc2 (v := 1152921504606846976) hx hb hown (hts _ mw_577) dX6_tryEach_130 ?_
      exact tk_retl C w dX6_tryEach_133 h
    · have h := h.2 c2
      refine lv_lload hx hb dX6_tryEach_125 (lv_at hl 4 rfl) ?_
      refine lv_goto (tgt := 133) hx hb dX6_tryEach_127 (by decide) ?_
      exact tk_retl C w dX6_tryEach_133 h
  · have h := h.2 c1
    refine lv_aload_n hx hb dX6_tryEach_26 rfl (lv_at hl 0 rfl) ?_
    refine tk_get (k := 30) (v := .ref (ad 34)) hx hb hts hown w rfl rfl inlX6 3 (by decide) mw_76 rfl dX6_tryEach_27 ?_
    refine lv_iload hx hb dX6_tryEach_30 (lv_at hl 6 rfl) ?_
    obtain ⟨hi3, h⟩ := h
    refine tk_iald (k := 34) hx hb w rfl hi3 dX6_tryEach_32 ?_
    refine lv_topi (fun z4 e_z4 => ?_)
    have h := h z4 e_z4
    refine lv_istore (lv' := [(10, .int z4), (0, .ref (ad 30)), (3, .int x3), (4, .int x4), (5, .int x5), (6, .long x6), (8, .int x8), (9, .int x9)]) hx hb dX6_tryEach_33 hl (by decide) rfl (fun ls hl => ?_)
    refine lv_aload_n hx hb dX6_tryEach_35 rfl (lv_at hl 1 rfl) ?_
    refine tk_get (k := 30) (v := .ref (ad 37)) hx hb hts hown w rfl rfl inlX6 6 (by decide) mw_80 rfl dX6_tryEach_36 ?_
    refine lv_iload hx hb dX6_tryEach_39 (lv_at hl 4 rfl) ?_
    obtain ⟨hi5, h⟩ := h
    refine tk_aald (k := 37) (t := 1) (ty := .array .int) hx hb w rfl (by decide) rfl rfl hi5 dX6_tryEach_41 ?_
    refine lv_iload_n hx hb dX6_tryEach_42 rfl (lv_at hl 2 rfl) ?_
    obtain ⟨hi6, h⟩ := h
    refine tk_iald (k := 37 + 1 + 1 * Int32.toNatClampNeg x5) hx hb w (tk_r37 hi5) hi6 dX6_tryEach_43 ?_
    refine lv_iload hx hb dX6_tryEach_44 (lv_at hl 0 rfl) ?_
    refine tk_cSN C w (as := [aI (σ.1 (37 + 1 + 1 * Int32.toNatClampNeg x5) (Int32.toNatClampNeg x3)), aI z4]) (rest := []) mw_216 mw_2 (List.mem_of_getElem? (i := 13) rfl) mw_215 hd_X7_has (by decide) hl.1 (Nat.le_of_ble_eq_true rfl) rfl dX6_tryEach_46 h (fun r7 σ8 H locs hq w => ?_)
    obtain ⟨y9, rfl, h⟩ := hq
    refine W.eq (g2 := F0 m 49 ls [.int y9]) rfl ?_
    refine lv_if_eq (tgt := 114) hx hb dX6_tryEach_49 (by decide) (fun c10 => ?_) (fun c10 => ?_)
    · have h := h.1 c10
      refine lv_iinc (v := x9 + 1) (lv' := [(9, .int (x9 + 1)), (10, .int z4), (0, .ref (ad 30)), (3, .int x3), (4, .int x4), (5, .int x5), (6, .long x6), (8, .int x8)]) hx hb dX6_tryEach_114 hl (k := 7) rfl rfl (by decide) rfl (fun ls hl => ?_)
      refine lv_goto (tgt := 20) hx hb dX6_tryEach_117 (by decide) ?_
      exact h _ _ _ _ _ _ _ _ _ _ _ _ _ _ _ _ C w (lv_sub hl [2, 3, 4, 5, 6, 7, 0] rfl)
    · have h := h.2 c10
      refine lv_aload_n hx hb dX6_tryEach_52 rfl (lv_at hl 1 rfl) ?_
      refine lv_iload_n hx hb dX6_tryEach_53 rfl (lv_at hl 2 rfl) ?_
      refine lv_iload hx hb dX6_tryEach_54 (lv_at hl 0 rfl) ?_
      refine lv_iload hx hb dX6_tryEach_56 (lv_at hl 3 rfl) ?_
      refine lv_iload hx hb dX6_tryEach_58 (lv_at hl 4 rfl) ?_
      refine tk_cV C w (k := 30) rfl rfl (as := [aI x3, aI z4, aI x4, aI x5]) (rest := []) mw_626 mw_39 mw_623 mw_624 mw_625 hd_X6_give (by decide) hl.1 (Nat.le_of_ble_eq_true rfl) rfl dX6_tryEach_60 h (fun r11 σ12 H locs hq w => ?_)
      obtain ⟨rfl, h⟩ := hq
      refine W.eq (g2 := F0 m 63 ls []) rfl ?_
      refine lv_aload_n hx hb dX6_tryEach_63 rfl (lv_at hl 1 rfl) ?_
      refine lv_iload_n hx hb dX6_tryEach_64 rfl (lv_at hl 2 rfl) ?_
      refine lv_iload hx hb dX6_tryEach_65 (lv_at hl 0 rfl) ?_
      refine tk_cV C w (k := 30) rfl rfl (as := [aI x3, aI z4]) (rest := []) mw_598 mw_39 mw_595 mw_596 mw_597 hd_X6_weight (by decide) hl.1 (Nat.le_of_ble_eq_true rfl) rfl dX6_tryEach_67 h (fun r13 σ14 H locs hq w => ?_)
      obtain ⟨y15, rfl, h⟩ := hq
      refine W.eq (g2 := F0 m 70 ls [.long y15]) rfl ?_
      refine lv_lstore (lv' := [(11, .long y15), (10, .int z4), (0, .ref (ad 30)), (3, .int x3), (4, .int x4), (5, .int x5), (6, .long x6), (8, .int x8), (9, .int x9)]) hx hb dX6_tryEach_70 hl (by decide) rfl (fun ls hl => ?_)
      refine lv_aload_n hx hb dX6_tryEach_72 rfl (lv_at hl 2 rfl) ?_
      refine lv_lload hx hb dX6_tryEach_73 (lv_at hl 6 rfl) ?_
      refine lv_lload hx hb dX6_tryEach_75 (lv_at hl 0 rfl) ?_
      refine lv_lsub hx hb dX6_tryEach_77 ?_
      refine lv_iload hx hb dX6_tryEach_78 (lv_at hl 4 rfl) ?_
      refine lv_iconst (v := 1) hx hb dX6_tryEach_80 (by decide) ?_
      refine lv_iload_n hx hb dX6_tryEach_81 rfl (lv_at hl 3 rfl) ?_
      refine lv_ishl hx hb dX6_tryEach_82 ?_
      refine lv_iconst (v := (-1)) hx hb dX6_tryEach_83 (by decide) ?_
      refine lv_ixor hx hb dX6_tryEach_84 ?_
      refine lv_iand hx hb dX6_tryEach_85 ?_
      refine lv_iload hx hb dX6_tryEach_86 (lv_at hl 5 rfl) ?_
      refine lv_iconst (v := 1) hx hb dX6_tryEach_88 (by decide) ?_
      refine lv_iadd hx hb dX6_tryEach_89 ?_
      refine tk_cV C w (k := 30) rfl rfl (as := [aL (x6 - y15), aI (x4 &&& (((1 : Int32) <<< (x3 &&& 31)) ^^^ (-1))), aI (x5 + 1)]) (rest := []) mw_590 mw_39 mw_587 mw_588 mw_589 hd_X6_leastBelow (by decide) hl.1 (Nat.le_of_ble_eq_true rfl) rfl dX6_tryEach_90 h (fun r16 σ17 H locs hq w => ?_)
      obtain ⟨y18, rfl, h⟩ := hq
      refine W.eq (g2 := F0 m 93 ls [.long y18]) rfl ?_
      refine lv_lstore (lv' := [(13, .long y18), (11, .long y15), (10, .int z4), (0, .ref (ad 30)), (3, .int x3), (4, .int x4), (5, .int x5), (6, .long x6), (8, .int x8), (9, .int x9)]) hx hb dX6_tryEach_93 hl (by decide) rfl (fun ls hl => ?_)
      refine lv_lload hx hb dX6_tryEach_95 (lv_at hl 0 rfl) ?_
      refine lv_ldc2 (v := 1152921504606846976) hx hb hown (hts _ mw_577) dX6_tryEach_97 ?_
      refine W.lcmp hx hb dX6_tryEach_100 ?_
      refine lv_if_eq (tgt := 114) hx hb dX6_tryEach_101 (by decide) (fun c19 => ?_) (fun c19 => ?_)
      · have h := h.1 c19
        refine lv_iinc (v := x9 + 1) (lv' := [(9, .int (x9 + 1)), (13, .long y18), (11, .long y15), (10, .int z4), (0, .ref (ad 30)), (3, .int x3), (4, .int x4), (5, .int x5), (6, .long x6), (8, .int x8)]) hx hb dX6_tryEach_114 hl (k := 9) rfl rfl (by decide) rfl (fun ls hl => ?_)
        refine lv_goto (tgt := 20) hx hb dX6_tryEach_117 (by decide) ?_
        exact h _ _ _ _ _ _ _ _ _ _ _ _ _ _ _ _ C w (lv_sub hl [4, 5, 6, 7, 8, 9, 0] rfl)
      · have h := h.2 c19
        refine lv_lload hx hb dX6_tryEach_104 (lv_at hl 1 rfl) ?_
        refine lv_lload hx hb dX6_tryEach_106 (lv_at hl 0 rfl) ?_
        refine lv_ladd hx hb dX6_tryEach_108 ?_
        refine lv_topl (fun z20 e_z20 => ?_)
        have h := h z20 e_z20
        refine lv_lstore (lv' := [(6, .long z20), (13, .long y18), (11, .long y15), (10, .int z4), (0, .ref (ad 30)), (3, .int x3), (4, .int x4), (5, .int x5), (8, .int x8), (9, .int x9)]) hx hb dX6_tryEach_109 hl (by decide) rfl (fun ls hl => ?_)
        refine lv_iconst (v := 1) hx hb dX6_tryEach_111 (by decide) ?_
        refine lv_istore (lv' := [(8, .int 1), (6, .long z20), (13, .long y18), (11, .long y15), (10, .int z4), (0, .ref (ad 30)), (3, .int x3), (4, .int x4), (5, .int x5), (9, .int x9)]) hx hb dX6_tryEach_112 hl (by decide) rfl (fun ls hl => ?_)
        refine lv_iinc (v := x9 + 1) (lv' := [(9, .int (x9 + 1)), (8, .int 1), (6, .long z20), (13, .long y18), (11, .long y15), (10, .int z4), (0, .ref (ad 30)), (3, .int x3), (4, .int x4), (5, .int x5)]) hx hb dX6_tryEach_114 hl (k := 9) rfl rfl (by decide) rfl (fun ls hl => ?_)
        refine lv_goto (tgt := 20) hx hb dX6_tryEach_117 (by decide) ?_
        exact h _ _ _ _ _ _ _ _ _ _ _ _ _ _ _ _ C w (lv_sub hl [6, 7, 8, 9, 2, 1, 0] rfl)
set_option maxHeartbeats 4000000 in
set_option maxRecDepth 100000 in
theorem b_X6_tryEach_0 (d : Nat) (x1 : Int64) (x3 : Int32) (x4 : Int32) (x5 : Int32) (σ : tk_S) (Q : Int64 → tk_S → Prop) (h : (x5 < 12 → g_X6_tryEach (d + 1) 20 [(0, aN 30), (3, aI x3), (4, aI x4), (5, aI x5), (6, aL x1), (8, aI 0), (9, aI 0)] σ Q) ∧ (¬ x5 < 12 → Q 1152921504606846976 σ)) : g_X6_tryEach (d + 1) 0 [(0, aN 30), (1, aL x1), (3, aI x3), (4, aI x4), (5, aI x5)] σ Q := by
  intro p l e s m args below meth c D cy ad base H locs ls C w hl
  obtain ⟨hx, hb, hml, hown, hts, hr, hlk⟩ := id C
  have hl : lv_has ls 15 [(0, .ref (ad 30)), (1, .long x1), (3, .int x3), (4, .int x4), (5, .int x5)] := hl
  refine lv_iload hx hb dX6_tryEach_0 (lv_at hl 4 rfl) ?_
  refine lv_bipush (v := 12) hx hb dX6_tryEach_2 (by decide) ?_
  refine lv_icmp_lt (tgt := 11) hx hb dX6_tryEach_4 (by decide) (fun c1 => ?_) (fun c1 => ?_)
  · have h := h.1 c1
    refine lv_lload_n hx hb dX6_tryEach_11 rfl (lv_at hl 1 rfl) ?_
    refine lv_lstore (lv' := [(6, .long x1), (0, .ref (ad 30)), (1, .long x1), (3, .int x3), (4, .int x4), (5, .int x5)]) hx hb dX6_tryEach_12 hl (by decide) rfl (fun ls hl => ?_)
    refine lv_iconst (v := 0) hx hb dX6_tryEach_14 (by decide) ?_
    refine lv_istore (lv' := [(8, .int 0), (6, .long x1), (0, .ref (ad 30)), (1, .long x1), (3, .int x3), (4, .int x4), (5, .int x5)]) hx hb dX6_tryEach_15 hl (by decide) rfl (fun ls hl => ?_)
    refine lv_iconst (v := 0) hx hb dX6_tryEach_17 (by decide) ?_
    refine lv_istore (lv' := [(9, .int 0), (8, .int 0), (6, .long x1), (0, .ref (ad 30)), (1, .long x1), (3, .int x3), (4, .int x4), (5, .int x5)]) hx hb dX6_tryEach_18 hl (by decide) rfl (fun ls hl => ?_)
    exact h _ _ _ _ _ _ _ _ _ _ _ _ _ _ _ _ C w (lv_sub hl [3, 5, 6, 7, 2, 1, 0] rfl)
  · have h := h.2 c1
    refine lv_ldc2 (v := 1152921504606846976) hx hb hown (hts _ mw_577) dX6_tryEach_7 ?_
    exact tk_retl C w dX6_tryEach_10 h
theorem e_X6_tryEach (d : Nat) (x1 : Int64) (x3 : Int32) (x4 : Int32) (x5 : Int32) {σ : tk_S} {Q : Int64 → tk_S → Prop} (h : g_X6_tryEach d 0 [(0, aN 30), (1, aL x1), (3, aI x3), (4, aI x4), (5, aI x5)] σ Q) : p_X6_tryEach d [aN 30, aL x1, aI x3, aI x4, aI x5] σ Q := tk_entry (by decide) rfl (fun _ => Nat.le_of_ble_eq_true rfl) (fun _ => rfl) h
abbrev g_X6_give (d pc : Nat) (vals : List (Nat × tk_V)) (σ : tk_S) (Q : tk_S → Prop) : Prop := tk_G RX6 cX6_give 7 none d pc vals σ (tk_v Q)
set_option maxHeartbeats 4000000 in
set_option maxRecDepth 100000 in
theorem b_X6_give_3 (d : Nat) (x1 : Int32) (x2 : Int32) (x3 : Int32) (x4 : Int32) (x5 : Int32) (σ : tk_S) (Q : tk_S → Prop) (h : (12 ≤ x5 → Q σ) ∧ (¬ 12 ≤ x5 → p_X7_has d [aI x3, aI x5] σ (fun y4 σ3 => (y4 = 0 → g_X6_give (d + 1) 3 [(0, aN 30), (1, aI x1), (2, aI x2), (3, aI x3), (4, aI x4), (5, aI (x5 + 1))] σ3 Q) ∧ (¬ y4 = 0 → vp_in x1 12 ∧ (p_X7_has d [aI (σ3.1 33 (Int32.toNatClampNeg x1)), aI x5] σ3 (fun y9 σ8 => vp_in (x4 + 1) 13 ∧ ((y9 = 0 → vp_in x4 13 ∧ (vp_in x5 12 ∧ (vp_in x5 12 ∧ (g_X6_give (d + 1) 3 [(0, aN 30), (1, aI x1), (2, aI x2), (3, aI x3), (4, aI x4), (5, aI (x5 + 1))] (tk_up σ8 (37 + 1 + 1 * Int32.toNatClampNeg (x4 + 1)) (Int32.toNatClampNeg x5) (σ8.1 (37 + 1 + 1 * Int32.toNatClampNeg x4) (Int32.toNatClampNeg x5))) Q)))) ∧ (¬ y9 = 0 → vp_in x4 13 ∧ (vp_in x5 12 ∧ (vp_in x2 4 ∧ (vp_in x5 12 ∧ (g_X6_give (d + 1) 3 [(0, aN 30), (1, aI x1), (2, aI x2), (3, aI x3), (4, aI x4), (5, aI (x5 + 1))] (tk_up σ8 (37 + 1 + 1 * Int32.toNatClampNeg (x4 + 1)) (Int32.toNatClampNeg x5) ((σ8.1 (37 + 1 + 1 * Int32.toNatClampNeg x4) (Int32.toNatClampNeg x5)) &&& (σ8.1 31 (Int32.toNatClampNeg x2)))) Q)))))))))))) : g_X6_give (d + 1) 3 [(0, aN 30), (1, aI x1), (2, aI x2), (3, aI x3), (4, aI x4), (5, aI x5)] σ Q := by
  intro p l e s m args below meth c D cy ad base H locs ls C w hl
  obtain ⟨hx, hb, hml, hown, hts, hr, hlk⟩ := id C
  have hl : lv_has ls 7 [(0, .ref (ad 30)), (1, .int x1), (2, .int x2), (3, .int x3), (4, .int x4), (5, .int x5)] := hl
  refine lv_iload hx hb dX6_give_3 (lv_at hl 5 rfl) ?_
  refine lv_bipush (v := 12) hx hb dX6_give_5 (by decide) ?_
  refine lv_icmp_ge (tgt := 85) hx hb dX6_give_7 (by decide) (fun c1 => ?_) (fun c1 => ?_)
  · have h := h.1 c1
    exact tk_retv C w dX6_give_85 h
  · have h := h.2 c1
    refine lv_iload_n hx hb dX6_give_10 rfl (lv_at hl 3 rfl) ?_
    refine lv_iload hx hb dX6_give_11 (lv_at hl 5 rfl) ?_
    refine tk_cSN C w (as := [aI x3, aI x5]) (rest := []) mw_216 mw_2 (List.mem_of_getElem? (i := 13) rfl) mw_215 hd_X7_has (by decide) hl.1 (Nat.le_of_ble_eq_true rfl) rfl dX6_give_13 h (fun r2 σ3 H locs hq w => ?_)
    obtain ⟨y4, rfl, h⟩ := hq
    refine W.eq (g2 := F0 m 16 ls [.int y4]) rfl ?_
    refine lv_if_eq (tgt := 79) hx hb dX6_give_16 (by decide) (fun c5 => ?_) (fun c5 => ?_)
    · have h := h.1 c5
      refine lv_iinc (v := x5 + 1) (lv' := [(5, .int (x5 + 1)), (0, .ref (ad 30)), (1, .int x1), (2, .int x2), (3, .int x3), (4, .int x4)]) hx hb dX6_give_79 hl (k := 5) rfl rfl (by decide) rfl (fun ls hl => ?_)
      refine lv_goto (tgt := 3) hx hb dX6_give_82 (by decide) ?_
      exact h _ _ _ _ _ _ _ _ _ _ _ _ _ _ _ _ C w (lv_sub hl [1, 2, 3, 4, 5, 0] rfl)
    · have h := h.2 c5
      refine lv_aload_n hx hb dX6_give_19 rfl (lv_at hl 0 rfl) ?_
      refine tk_get (k := 30) (v := .ref (ad 33)) hx hb hts hown w rfl rfl inlX6 2 (by decide) mw_75 rfl dX6_give_20 ?_
      refine lv_iload_n hx hb dX6_give_23 rfl (lv_at hl 1 rfl) ?_
      obtain ⟨hi6, h⟩ := h
      refine tk_iald (k := 33) hx hb w rfl hi6 dX6_give_24 ?_
      refine lv_iload hx hb dX6_give_25 (lv_at hl 5 rfl) ?_
      refine tk_cSN C w (as := [aI (σ3.1 33 (Int32.toNatClampNeg x1)), aI x5]) (rest := []) mw_216 mw_2 (List.mem_of_getElem? (i := 13) rfl) mw_215 hd_X7_has (by decide) hl.1 (Nat.le_of_ble_eq_true rfl) rfl dX6_give_27 h (fun r7 σ8 H locs hq w => ?_)
      obtain ⟨y9, rfl, h⟩ := hq
      refine W.eq (g2 := F0 m 30 ls [.int y9]) rfl ?_
      refine lv_istore (lv' := [(6, .int y9), (0, .ref (ad 30)), (1, .int x1), (2, .int x2), (3, .int x3), (4, .int x4), (5, .int x5)]) hx hb dX6_give_30 hl (by decide) rfl (fun ls hl => ?_)
      refine lv_aload_n hx hb dX6_give_32 rfl (lv_at hl 1 rfl) ?_
      refine tk_get (k := 30) (v := .ref (ad 37)) hx hb hts hown w rfl rfl inlX6 6 (by decide) mw_80 rfl dX6_give_33 ?_
      refine lv_iload hx hb dX6_give_36 (lv_at hl 5 rfl) ?_
      refine lv_iconst (v := 1) hx hb dX6_give_38 (by decide) ?_
      refine lv_iadd hx hb dX6_give_39 ?_
      obtain ⟨hi10, h⟩ := h
      refine tk_aald (k := 37) (t := 1) (ty := .array .int) hx hb w rfl (by decide) rfl rfl hi10 dX6_give_40 ?_
      refine lv_iload hx hb dX6_give_41 (lv_at hl 6 rfl) ?_
      refine lv_iload hx hb dX6_give_43 (lv_at hl 0 rfl) ?_
      refine lv_if_eq (tgt := 68) hx hb dX6_give_45 (by decide) (fun c11 => ?_) (fun c11 => ?_)
      · have h := h.1 c11
        refine lv_aload_n hx hb dX6_give_68 rfl (lv_at hl 1 rfl) ?_
        refine tk_get (k := 30) (v := .ref (ad 37)) hx hb hts hown w rfl rfl inlX6 6 (by decide) mw_80 rfl dX6_give_69 ?_
        refine lv_iload hx hb dX6_give_72 (lv_at hl 5 rfl) ?_
        obtain ⟨hi12, h⟩ := h
        refine tk_aald (k := 37) (t := 1) (ty := .array .int) hx hb w rfl (by decide) rfl rfl hi12 dX6_give_74 ?_
        refine lv_iload hx hb dX6_give_75 (lv_at hl 6 rfl) ?_
        obtain ⟨hi13, h⟩ := h
        refine tk_iald (k := 37 + 1 + 1 * Int32.toNatClampNeg x4) hx hb w (tk_r37 hi12) hi13 dX6_give_77 ?_
        obtain ⟨hi14, h⟩ := h
        refine tk_iast (k := 37 + 1 + 1 * Int32.toNatClampNeg (x4 + 1)) hx hb w (tk_r37 hi10) hi14 dX6_give_78 (fun H locs w => ?_)
        refine lv_iinc (v := x5 + 1) (lv' := [(5, .int (x5 + 1)), (6, .int y9), (0, .ref (ad 30)), (1, .int x1), (2, .int x2), (3, .int x3), (4, .int x4)]) hx hb dX6_give_79 hl (k := 6) rfl rfl (by decide) rfl (fun ls hl => ?_)
        refine lv_goto (tgt := 3) hx hb dX6_give_82 (by decide) ?_
        exact h _ _ _ _ _ _ _ _ _ _ _ _ _ _ _ _ C w (lv_sub hl [2, 3, 4, 5, 6, 0] rfl)
      · have h := h.2 c11
        refine lv_aload_n hx hb dX6_give_48 rfl (lv_at hl 1 rfl) ?_
        refine tk_get (k := 30) (v := .ref (ad 37)) hx hb hts hown w rfl rfl inlX6 6 (by decide) mw_80 rfl dX6_give_49 ?_
        refine lv_iload hx hb dX6_give_52 (lv_at hl 5 rfl) ?_
        obtain ⟨hi15, h⟩ := h
        refine tk_aald (k := 37) (t := 1) (ty := .array .int) hx hb w rfl (by decide) rfl rfl hi15 dX6_give_54 ?_
        refine lv_iload hx hb dX6_give_55 (lv_at hl 6 rfl) ?_
        obtain ⟨hi16, h⟩ := h
        refine tk_iald (k := 37 + 1 + 1 * Int32.toNatClampNeg x4) hx hb w (tk_r37 hi15) hi16 dX6_give_57 ?_
        refine lv_aload_n hx hb dX6_give_58 rfl (lv_at hl 1 rfl) ?_
        refine tk_get (k := 30) (v := .ref (ad 31)) hx hb hts hown w rfl rfl inlX6 0 (by decide) mw_73 rfl dX6_give_59 ?_
        refine lv_iload_n hx hb dX6_give_62 rfl (lv_at hl 3 rfl) ?_
        obtain ⟨hi17, h⟩ := h
        refine tk_iald (k := 31) hx hb w rfl hi17 dX6_give_63 ?_
        refine lv_iand hx hb dX6_give_64 ?_
        refine lv_goto (tgt := 78) hx hb dX6_give_65 (by decide) ?_
        obtain ⟨hi18, h⟩ := h
        refine tk_iast (k := 37 + 1 + 1 * Int32.toNatClampNeg (x4 + 1)) hx hb w (tk_r37 hi10) hi18 dX6_give_78 (fun H locs w => ?_)
        refine lv_iinc (v := x5 + 1) (lv' := [(5, .int (x5 + 1)), (6, .int y9), (0, .ref (ad 30)), (1, .int x1), (2, .int x2), (3, .int x3), (4, .int x4)]) hx hb dX6_give_79 hl (k := 6) rfl rfl (by decide) rfl (fun ls hl => ?_)
        refine lv_goto (tgt := 3) hx hb dX6_give_82 (by decide) ?_
        exact h _ _ _ _ _ _ _ _ _ _ _ _ _ _ _ _ C w (lv_sub hl [2, 3, 4, 5, 6, 0] rfl)
set_option maxHeartbeats 4000000 in
set_option maxRecDepth 100000 in
theorem b_X6_give_0 (d : Nat) (x1 : Int32) (x2 : Int32) (x3 : Int32) (x4 : Int32) (σ : tk_S) (Q : tk_S → Prop) (h : g_X6_give (d + 1) 3 [(0, aN 30), (1, aI x1), (2, aI x2), (3, aI x3), (4, aI x4), (5, aI 0)] σ Q) : g_X6_give (d + 1) 0 [(0, aN 30), (1, aI x1), (2, aI x2), (3, aI x3), (4, aI x4)] σ Q := by
  intro p l e s m args below meth c D cy ad base H locs ls C w hl
  obtain ⟨hx, hb, hml, hown, hts, hr, hlk⟩ := id C
  have hl : lv_has ls 7 [(0, .ref (ad 30)), (1, .int x1), (2, .int x2), (3, .int x3), (4, .int x4)] := hl
  refine lv_iconst (v := 0) hx hb dX6_give_0 (by decide) ?_
  refine lv_istore (lv' := [(5, .int 0), (0, .ref (ad 30)), (1, .int x1), (2, .int x2), (3, .int x3), (4, .int x4)]) hx hb dX6_give_1 hl (by decide) rfl (fun ls hl => ?_)
  exact h _ _ _ _ _ _ _ _ _ _ _ _ _ _ _ _ C w (lv_sub hl [1, 2, 3, 4, 5, 0] rfl)
theorem e_X6_give (d : Nat) (x1 : Int32) (x2 : Int32) (x3 : Int32) (x4 : Int32) {σ : tk_S} {Q : tk_S → Prop} (h : g_X6_give d 0 [(0, aN 30), (1, aI x1), (2, aI x2), (3, aI x3), (4, aI x4)] σ Q) : p_X6_give d [aN 30, aI x1, aI x2, aI x3, aI x4] σ Q := tk_entry (by decide) rfl (fun _ => Nat.le_of_ble_eq_true rfl) (fun _ => rfl) h
abbrev g_X6_groupOf (d pc : Nat) (vals : List (Nat × tk_V)) (σ : tk_S) (Q : Int32 → tk_S → Prop) : Prop := tk_G RX6 cX6_groupOf 7 (some .int) d pc vals σ (tk_i Q)
set_option maxHeartbeats 4000000 in
set_option maxRecDepth 100000 in
theorem b_X6_groupOf_29 (d : Nat) (x2 : Int32) (x3 : Int32) (x4 : Int32) (x5 : Int32) (x6 : Int32) (σ : tk_S) (Q : Int32 → tk_S → Prop) (h : (12 ≤ x6 → g_X6_groupOf (d + 1) 10 [(0, aN 30), (2, aI x2), (3, aI x3), (4, aI x4), (5, aI (x5 + 1))] σ Q) ∧ (¬ 12 ≤ x6 → p_X7_has d [aI x3, aI x6] σ (fun y4 σ3 => (y4 = 0 → ∀ z6 : Int32, z6 = x3 ||| 0 → (g_X6_groupOf (d + 1) 29 [(0, aN 30), (2, aI x2), (3, aI z6), (4, aI x4), (5, aI x5), (6, aI (x6 + 1))] σ3 Q)) ∧ (¬ y4 = 0 → vp_in x6 12 ∧ (∀ z8 : Int32, z8 = x3 ||| ((σ3.1 33 (Int32.toNatClampNeg x6)) &&& x2) → (g_X6_groupOf (d + 1) 29 [(0, aN 30), (2, aI x2), (3, aI z8), (4, aI x4), (5, aI x5), (6, aI (x6 + 1))] σ3 Q)))))) : g_X6_groupOf (d + 1) 29 [(0, aN 30), (2, aI x2), (3, aI x3), (4, aI x4), (5, aI x5), (6, aI x6)] σ Q := by
  intro p l e s m args below meth c D cy ad base H locs ls C w hl
  obtain ⟨hx, hb, hml, hown, hts, hr, hlk⟩ := id C
  have hl : lv_has ls 7 [(0, .ref (ad 30)), (2, .int x2), (3, .int x3), (4, .int x4), (5, .int x5), (6, .int x6)] := hl
  refine lv_iload hx hb dX6_groupOf_29 (lv_at hl 5 rfl) ?_
  refine lv_bipush (v := 12) hx hb dX6_groupOf_31 (by decide) ?_
  refine lv_icmp_ge (tgt := 67) hx hb dX6_groupOf_33 (by decide) (fun c1 => ?_) (fun c1 => ?_)
  · have h := h.1 c1
    refine lv_iinc (v := x5 + 1) (lv' := [(5, .int (x5 + 1)), (0, .ref (ad 30)), (2, .int x2), (3, .int x3), (4, .int x4), (6, .int x6)]) hx hb dX6_groupOf_67 hl (k := 4) rfl rfl (by decide) rfl (fun ls hl => ?_)
    refine lv_goto (tgt := 10) hx hb dX6_groupOf_70 (by decide) ?_
    exact h _ _ _ _ _ _ _ _ _ _ _ _ _ _ _ _ C w (lv_sub hl [1, 2, 3, 4, 0] rfl)
  · have h := h.2 c1
    refine lv_iload_n hx hb dX6_groupOf_36 rfl (lv_at hl 2 rfl) ?_
    refine lv_iload_n hx hb dX6_groupOf_37 rfl (lv_at hl 2 rfl) ?_
    refine lv_iload hx hb dX6_groupOf_38 (lv_at hl 5 rfl) ?_
    refine tk_cSN C w (as := [aI x3, aI x6]) (rest := [.int x3]) mw_216 mw_2 (List.mem_of_getElem? (i := 13) rfl) mw_215 hd_X7_has (by decide) hl.1 (Nat.le_of_ble_eq_true rfl) rfl dX6_groupOf_40 h (fun r2 σ3 H locs hq w => ?_)
    obtain ⟨y4, rfl, h⟩ := hq
    refine W.eq (g2 := F0 m 43 ls [.int y4, .int x3]) rfl ?_
    refine lv_if_eq (tgt := 58) hx hb dX6_groupOf_43 (by decide) (fun c5 => ?_) (fun c5 => ?_)
    · have h := h.1 c5
      refine lv_iconst (v := 0) hx hb dX6_groupOf_58 (by decide) ?_
      refine lv_ior hx hb dX6_groupOf_59 ?_
      refine lv_topi (fun z6 e_z6 => ?_)
      have h := h z6 e_z6
      refine lv_istore_n (lv' := [(3, .int z6), (0, .ref (ad 30)), (2, .int x2), (4, .int x4), (5, .int x5), (6, .int x6)]) hx hb dX6_groupOf_60 rfl hl (by decide) rfl (fun ls hl => ?_)
      refine lv_iinc (v := x6 + 1) (lv' := [(6, .int (x6 + 1)), (3, .int z6), (0, .ref (ad 30)), (2, .int x2), (4, .int x4), (5, .int x5)]) hx hb dX6_groupOf_61 hl (k := 5) rfl rfl (by decide) rfl (fun ls hl => ?_)
      refine lv_goto (tgt := 29) hx hb dX6_groupOf_64 (by decide) ?_
      exact h _ _ _ _ _ _ _ _ _ _ _ _ _ _ _ _ C w (lv_sub hl [2, 3, 1, 4, 5, 0] rfl)
    · have h := h.2 c5
      refine lv_aload_n hx hb dX6_groupOf_46 rfl (lv_at hl 0 rfl) ?_
      refine tk_get (k := 30) (v := .ref (ad 33)) hx hb hts hown w rfl rfl inlX6 2 (by decide) mw_75 rfl dX6_groupOf_47 ?_
      refine lv_iload hx hb dX6_groupOf_50 (lv_at hl 5 rfl) ?_
      obtain ⟨hi7, h⟩ := h
      refine tk_iald (k := 33) hx hb w rfl hi7 dX6_groupOf_52 ?_
      refine lv_iload_n hx hb dX6_groupOf_53 rfl (lv_at hl 1 rfl) ?_
      refine lv_iand hx hb dX6_groupOf_54 ?_
      refine lv_goto (tgt := 59) hx hb dX6_groupOf_55 (by decide) ?_
      refine lv_ior hx hb dX6_groupOf_59 ?_
      refine lv_topi (fun z8 e_z8 => ?_)
      have h := h z8 e_z8
      refine lv_istore_n (lv' := [(3, .int z8), (0, .ref (ad 30)), (2, .int x2), (4, .int x4), (5, .int x5), (6, .int x6)]) hx hb dX6_groupOf_60 rfl hl (by decide) rfl (fun ls hl => ?_)
      refine lv_iinc (v := x6 + 1) (lv' := [(6, .int (x6 + 1)), (3, .int z8), (0, .ref (ad 30)), (2, .int x2), (4, .int x4), (5, .int x5)]) hx hb dX6_groupOf_61 hl (k := 5) rfl rfl (by decide) rfl (fun ls hl => ?_)
      refine lv_goto (tgt := 29) hx hb dX6_groupOf_64 (by decide) ?_
      exact h _ _ _ _ _ _ _ _ _ _ _ _ _ _ _ _ C w (lv_sub hl [2, 3, 1, 4, 5, 0] rfl)
set_option maxHeartbeats 4000000 in
set_option maxRecDepth 100000 in
theorem b_X6_groupOf_10 (d : Nat) (x2 : Int32) (x3 : Int32) (x4 : Int32) (x5 : Int32) (σ : tk_S) (Q : Int32 → tk_S → Prop) (h : (12 ≤ x5 → Q x3 σ) ∧ (¬ 12 ≤ x5 → (x3 = x4 → Q x3 σ) ∧ (¬ x3 = x4 → g_X6_groupOf (d + 1) 29 [(0, aN 30), (2, aI x2), (3, aI x3), (4, aI x3), (5, aI x5), (6, aI 0)] σ Q))) : g_X6_groupOf (d + 1) 10 [(0, aN 30), (2, aI x2), (3, aI x3), (4, aI x4), (5, aI x5)] σ Q := by
  intro p l e s m args below meth c D cy ad base H locs ls C w hl
  obtain ⟨hx, hb, hml, hown, hts, hr, hlk⟩ := id C
  have hl : lv_has ls 7 [(0, .ref (ad 30)), (2, .int x2), (3, .int x3), (4, .int x4), (5, .int x5)] := hl
  refine lv_iload hx hb dX6_groupOf_10 (lv_at hl 4 rfl) ?_
  refine lv_bipush (v := 12) hx hb dX6_groupOf_12 (by decide) ?_
  refine lv_icmp_ge (tgt := 73) hx hb dX6_groupOf_14 (by decide) (fun c1 => ?_) (fun c1 => ?_)
  · have h := h.1 c1
    refine lv_iload_n hx hb dX6_groupOf_73 rfl (lv_at hl 2 rfl) ?_
    exact tk_reti C w dX6_groupOf_74 h
  · have h := h.2 c1
    refine lv_iload_n hx hb dX6_groupOf_17 rfl (lv_at hl 2 rfl) ?_
    refine lv_iload hx hb dX6_groupOf_18 (lv_at hl 3 rfl) ?_
    refine lv_icmp_eq (tgt := 73) hx hb dX6_groupOf_20 (by decide) (fun c2 => ?_) (fun c2 => ?_)
    · have h := h.1 c2
      refine lv_iload_n hx hb dX6_groupOf_73 rfl (lv_at hl 2 rfl) ?_
      exact tk_reti C w dX6_groupOf_74 h
    · have h := h.2 c2
      refine lv_iload_n hx hb dX6_groupOf_23 rfl (lv_at hl 2 rfl) ?_
      refine lv_istore (lv' := [(4, .int x3), (0, .ref (ad 30)), (2, .int x2), (3, .int x3), (5, .int x5)]) hx hb dX6_groupOf_24 hl (by decide) rfl (fun ls hl => ?_)
      refine lv_iconst (v := 0) hx hb dX6_groupOf_26 (by decide) ?_
      refine lv_istore (lv' := [(6, .int 0), (4, .int x3), (0, .ref (ad 30)), (2, .int x2), (3, .int x3), (5, .int x5)]) hx hb dX6_groupOf_27 hl (by decide) rfl (fun ls hl => ?_)
      exact h _ _ _ _ _ _ _ _ _ _ _ _ _ _ _ _ C w (lv_sub hl [2, 3, 4, 1, 5, 0] rfl)
set_option maxHeartbeats 4000000 in
set_option maxRecDepth 100000 in
theorem b_X6_groupOf_0 (d : Nat) (x1 : Int32) (x2 : Int32) (σ : tk_S) (Q : Int32 → tk_S → Prop) (h : ∀ z1 : Int32, z1 = (1 : Int32) <<< (x1 &&& 31) → (g_X6_groupOf (d + 1) 10 [(0, aN 30), (2, aI x2), (3, aI z1), (4, aI 0), (5, aI 0)] σ Q)) : g_X6_groupOf (d + 1) 0 [(0, aN 30), (1, aI x1), (2, aI x2)] σ Q := by
  intro p l e s m args below meth c D cy ad base H locs ls C w hl
  obtain ⟨hx, hb, hml, hown, hts, hr, hlk⟩ := id C
  have hl : lv_has ls 7 [(0, .ref (ad 30)), (1, .int x1), (2, .int x2)] := hl
  refine lv_iconst (v := 1) hx hb dX6_groupOf_0 (by decide) ?_
  refine lv_iload_n hx hb dX6_groupOf_1 rfl (lv_at hl 1 rfl) ?_
  refine lv_ishl hx hb dX6_groupOf_2 ?_
  refine lv_topi (fun z1 e_z1 => ?_)
  have h := h z1 e_z1
  refine lv_istore_n (lv' := [(3, .int z1), (0, .ref (ad 30)), (1, .int x1), (2, .int x2)]) hx hb dX6_groupOf_3 rfl hl (by decide) rfl (fun ls hl => ?_)
  refine lv_iconst (v := 0) hx hb dX6_groupOf_4 (by decide) ?_
  refine lv_istore (lv' := [(4, .int 0), (3, .int z1), (0, .ref (ad 30)), (1, .int x1), (2, .int x2)]) hx hb dX6_groupOf_5 hl (by decide) rfl (fun ls hl => ?_)
  refine lv_iconst (v := 0) hx hb dX6_groupOf_7 (by decide) ?_
  refine lv_istore (lv' := [(5, .int 0), (4, .int 0), (3, .int z1), (0, .ref (ad 30)), (1, .int x1), (2, .int x2)]) hx hb dX6_groupOf_8 hl (by decide) rfl (fun ls hl => ?_)
  exact h _ _ _ _ _ _ _ _ _ _ _ _ _ _ _ _ C w (lv_sub hl [3, 5, 2, 1, 0] rfl)
theorem e_X6_groupOf (d : Nat) (x1 : Int32) (x2 : Int32) {σ : tk_S} {Q : Int32 → tk_S → Prop} (h : g_X6_groupOf d 0 [(0, aN 30), (1, aI x1), (2, aI x2)] σ Q) : p_X6_groupOf d [aN 30, aI x1, aI x2] σ Q := tk_entry (by decide) rfl (fun _ => Nat.le_of_ble_eq_true rfl) (fun _ => rfl) h
abbrev g_X6_cheapestWeight (d pc : Nat) (vals : List (Nat × tk_V)) (σ : tk_S) (Q : Int64 → tk_S → Prop) : Prop := tk_G RX6 cX6_cheapestWeight 6 (some .long) d pc vals σ (tk_l Q)
set_option maxHeartbeats 4000000 in
set_option maxRecDepth 100000 in
theorem b_X6_cheapestWeight_5 (d : Nat) (x1 : Int32) (k2 : Nat) (h_2 : tk_sh k2 = tk_ia 12) (x3 : Int64) (x5 : Int32) (σ : tk_S) (Q : Int64 → tk_S → Prop) (h : (12 ≤ x5 → Q x3 σ) ∧ (¬ 12 ≤ x5 → p_X7_has d [aI x1, aI x5] σ (fun y4 σ3 => (y4 = 0 → g_X6_cheapestWeight (d + 1) 5 [(0, aN 30), (1, aI x1), (2, aN k2), (3, aL x3), (5, aI (x5 + 1))] σ3 Q) ∧ (¬ y4 = 0 → vp_in x5 12 ∧ ((¬ (σ3.1 k2 (Int32.toNatClampNeg x5)) = 0 → vp_in x5 12 ∧ (vp_in (σ3.1 k2 (Int32.toNatClampNeg x5)) 16 ∧ (p_X6_weight d [aN 30, aI x5, aI (σ3.1 35 (Int32.toNatClampNeg (σ3.1 k2 (Int32.toNatClampNeg x5))))] σ3 (fun y12 σ11 => ∀ z13 : Int64, z13 = x3 + y12 → (g_X6_cheapestWeight (d + 1) 5 [(0, aN 30), (1, aI x1), (2, aN k2), (3, aL z13), (5, aI (x5 + 1))] σ11 Q))))) ∧ ((σ3.1 k2 (Int32.toNatClampNeg x5)) = 0 → Q 1152921504606846976 σ3)))))) : g_X6_cheapestWeight (d + 1) 5 [(0, aN 30), (1, aI x1), (2, aN k2), (3, aL x3), (5, aI x5)] σ Q := by
  intro p l e s m args below meth c D cy ad base H locs ls C w hl
  obtain ⟨hx, hb, hml, hown, hts, hr, hlk⟩ := id C
  have hl : lv_has ls 6 [(0, .ref (ad 30)), (1, .int x1), (2, .ref (ad k2)), (3, .long x3), (5, .int x5)] := hl
  refine lv_iload hx hb dX6_cheapestWeight_5 (lv_at hl 4 rfl) ?_
  refine lv_bipush (v := 12) hx hb dX6_cheapestWeight_7 (by decide) ?_
  refine lv_icmp_ge (tgt := 56) hx hb dX6_cheapestWeight_9 (by decide) (fun c1 => ?_) (fun c1 => ?_)
  · have h := h.1 c1
    refine lv_lload_n hx hb dX6_cheapestWeight_56 rfl (lv_at hl 3 rfl) ?_
    exact tk_retl C w dX6_cheapestWeight_57 h
  · have h := h.2 c1
    refine lv_iload_n hx hb dX6_cheapestWeight_12 rfl (lv_at hl 1 rfl) ?_
    refine lv_iload hx hb dX6_cheapestWeight_13 (lv_at hl 4 rfl) ?_
    refine tk_cSN C w (as := [aI x1, aI x5]) (rest := []) mw_216 mw_2 (List.mem_of_getElem? (i := 13) rfl) mw_215 hd_X7_has (by decide) hl.1 (Nat.le_of_ble_eq_true rfl) rfl dX6_cheapestWeight_15 h (fun r2 σ3 H locs hq w => ?_)
    obtain ⟨y4, rfl, h⟩ := hq
    refine W.eq (g2 := F0 m 18 ls [.int y4]) rfl ?_
    refine lv_if_eq (tgt := 50) hx hb dX6_cheapestWeight_18 (by decide) (fun c5 => ?_) (fun c5 => ?_)
    · have h := h.1 c5
      refine lv_iinc (v := x5 + 1) (lv' := [(5, .int (x5 + 1)), (0, .ref (ad 30)), (1, .int x1), (2, .ref (ad k2)), (3, .long x3)]) hx hb dX6_cheapestWeight_50 hl (k := 4) rfl rfl (by decide) rfl (fun ls hl => ?_)
      refine lv_goto (tgt := 5) hx hb dX6_cheapestWeight_53 (by decide) ?_
      exact h _ _ _ _ _ _ _ _ _ _ _ _ _ _ _ _ C w (lv_sub hl [1, 2, 3, 4, 0] rfl)
    · have h := h.2 c5
      refine lv_aload_n hx hb dX6_cheapestWeight_21 rfl (lv_at hl 2 rfl) ?_
      refine lv_iload hx hb dX6_cheapestWeight_22 (lv_at hl 4 rfl) ?_
      obtain ⟨hi6, h⟩ := h
      refine tk_iald (k := k2) hx hb w h_2 hi6 dX6_cheapestWeight_24 ?_
      refine lv_if_ne (tgt := 32) hx hb dX6_cheapestWeight_25 (by decide) (fun c7 => ?_) (fun c7 => ?_)
      · have h := h.1 c7
        refine lv_lload_n hx hb dX6_cheapestWeight_32 rfl (lv_at hl 3 rfl) ?_
        refine lv_aload_n hx hb dX6_cheapestWeight_33 rfl (lv_at hl 0 rfl) ?_
        refine lv_iload hx hb dX6_cheapestWeight_34 (lv_at hl 4 rfl) ?_
        refine lv_aload_n hx hb dX6_cheapestWeight_36 rfl (lv_at hl 0 rfl) ?_
        refine tk_get (k := 30) (v := .ref (ad 35)) hx hb hts hown w rfl rfl inlX6 4 (by decide) mw_77 rfl dX6_cheapestWeight_37 ?_
        refine lv_aload_n hx hb dX6_cheapestWeight_40 rfl (lv_at hl 2 rfl) ?_
        refine lv_iload hx hb dX6_cheapestWeight_41 (lv_at hl 4 rfl) ?_
        obtain ⟨hi8, h⟩ := h
        refine tk_iald (k := k2) hx hb w h_2 hi8 dX6_cheapestWeight_43 ?_
        obtain ⟨hi9, h⟩ := h
        refine tk_iald (k := 35) hx hb w rfl hi9 dX6_cheapestWeight_44 ?_
        refine tk_cV C w (k := 30) rfl rfl (as := [aI x5, aI (σ3.1 35 (Int32.toNatClampNeg (σ3.1 k2 (Int32.toNatClampNeg x5))))]) (rest := [.long x3]) mw_598 mw_39 mw_595 mw_596 mw_597 hd_X6_weight (by decide) hl.1 (Nat.le_of_ble_eq_true rfl) rfl dX6_cheapestWeight_45 h (fun r10 σ11 H locs hq w => ?_)
        obtain ⟨y12, rfl, h⟩ := hq
        refine W.eq (g2 := F0 m 48 ls [.long y12, .long x3]) rfl ?_
        refine lv_ladd hx hb dX6_cheapestWeight_48 ?_
        refine lv_topl (fun z13 e_z13 => ?_)
        have h := h z13 e_z13
        refine lv_lstore_n (lv' := [(3, .long z13), (0, .ref (ad 30)), (1, .int x1), (2, .ref (ad k2)), (5, .int x5)]) hx hb dX6_cheapestWeight_49 rfl hl (by decide) rfl (fun ls hl => ?_)
        refine lv_iinc (v := x5 + 1) (lv' := [(5, .int (x5 + 1)), (3, .long z13), (0, .ref (ad 30)), (1, .int x1), (2, .ref (ad k2))]) hx hb dX6_cheapestWeight_50 hl (k := 4) rfl rfl (by decide) rfl (fun ls hl => ?_)
        refine lv_goto (tgt := 5) hx hb dX6_cheapestWeight_53 (by decide) ?_
        exact h _ _ _ _ _ _ _ _ _ _ _ _ _ _ _ _ C w (lv_sub hl [2, 3, 4, 1, 0] rfl)
      · have h := h.2 c7
        refine lv_ldc2 (v := 1152921504606846976) hx hb hown (hts _ mw_577) dX6_cheapestWeight_28 ?_
        exact tk_retl C w dX6_cheapestWeight_31 h
set_option maxHeartbeats 4000000 in
set_option maxRecDepth 100000 in
theorem b_X6_cheapestWeight_0 (d : Nat) (x1 : Int32) (k2 : Nat) (h_2 : tk_sh k2 = tk_ia 12) (σ : tk_S) (Q : Int64 → tk_S → Prop) (h : g_X6_cheapestWeight (d + 1) 5 [(0, aN 30), (1, aI x1), (2, aN k2), (3, aL 0), (5, aI 0)] σ Q) : g_X6_cheapestWeight (d + 1) 0 [(0, aN 30), (1, aI x1), (2, aN k2)] σ Q := by
  intro p l e s m args below meth c D cy ad base H locs ls C w hl
  obtain ⟨hx, hb, hml, hown, hts, hr, hlk⟩ := id C
  have hl : lv_has ls 6 [(0, .ref (ad 30)), (1, .int x1), (2, .ref (ad k2))] := hl
  refine lv_lconst (v := 0) hx hb dX6_cheapestWeight_0 (by decide) ?_
  refine lv_lstore_n (lv' := [(3, .long 0), (0, .ref (ad 30)), (1, .int x1), (2, .ref (ad k2))]) hx hb dX6_cheapestWeight_1 rfl hl (by decide) rfl (fun ls hl => ?_)
  refine lv_iconst (v := 0) hx hb dX6_cheapestWeight_2 (by decide) ?_
  refine lv_istore (lv' := [(5, .int 0), (3, .long 0), (0, .ref (ad 30)), (1, .int x1), (2, .ref (ad k2))]) hx hb dX6_cheapestWeight_3 hl (by decide) rfl (fun ls hl => ?_)
  exact h _ _ _ _ _ _ _ _ _ _ _ _ _ _ _ _ C w (lv_sub hl [2, 3, 4, 1, 0] rfl)
theorem e_X6_cheapestWeight (d : Nat) (x1 : Int32) (k2 : Nat) {σ : tk_S} {Q : Int64 → tk_S → Prop} (h : g_X6_cheapestWeight d 0 [(0, aN 30), (1, aI x1), (2, aN k2)] σ Q) : p_X6_cheapestWeight d [aN 30, aI x1, aN k2] σ Q := tk_entry (by decide) rfl (fun _ => Nat.le_of_ble_eq_true rfl) (fun _ => rfl) h
abbrev g_X6_clashing (d pc : Nat) (vals : List (Nat × tk_V)) (σ : tk_S) (Q : Int32 → tk_S → Prop) : Prop := tk_G RX6 cX6_clashing 8 (some .int) d pc vals σ (tk_i Q)
set_option maxHeartbeats 4000000 in
set_option maxRecDepth 100000 in
theorem b_X6_clashing_14 (d : Nat) (x1 : Int32) (k2 : Nat) (h_2 : tk_sh k2 = tk_ia 12) (x3 : Int32) (x4 : Int32) (x5 : Int32) (σ : tk_S) (Q : Int32 → tk_S → Prop) (h : (12 ≤ x5 → Q x3 σ) ∧ (¬ 12 ≤ x5 → p_X7_has d [aI x1, aI x5] σ (fun y4 σ3 => (y4 = 0 → g_X6_clashing (d + 1) 14 [(0, aN 30), (1, aI x1), (2, aN k2), (3, aI x3), (4, aI x4), (5, aI (x5 + 1))] σ3 Q) ∧ (¬ y4 = 0 → vp_in x5 12 ∧ (vp_in x5 12 ∧ (vp_in (σ3.1 k2 (Int32.toNatClampNeg x5)) 16 ∧ (p_X6_clashWith d [aN 30, aI (σ3.1 35 (Int32.toNatClampNeg (σ3.1 k2 (Int32.toNatClampNeg x5))))] σ3 (fun y11 σ10 => (((σ3.1 33 (Int32.toNatClampNeg x5)) &&& y11) = 0 → g_X6_clashing (d + 1) 14 [(0, aN 30), (1, aI x1), (2, aN k2), (3, aI x3), (4, aI x4), (5, aI (x5 + 1))] σ10 Q) ∧ (¬ ((σ3.1 33 (Int32.toNatClampNeg x5)) &&& y11) = 0 → vp_in x5 12 ∧ (p_J6_bitCount_0f7a4 d [aI (σ10.1 k2 (Int32.toNatClampNeg x5))] σ10 (fun y16 σ15 => ∀ z17 : Int32, z17 = 4 - y16 → (vp_in x5 12 ∧ (p_J6_bitCount_0f7a4 d [aI ((σ15.1 33 (Int32.toNatClampNeg x5)) &&& x1)] σ15 (fun y21 σ20 => ∀ z22 : Int32, z22 = (z17 * 12) + y21 → ((z22 ≤ x4 → g_X6_clashing (d + 1) 14 [(0, aN 30), (1, aI x1), (2, aN k2), (3, aI x3), (4, aI x4), (5, aI (x5 + 1))] σ20 Q) ∧ (¬ z22 ≤ x4 → g_X6_clashing (d + 1) 14 [(0, aN 30), (1, aI x1), (2, aN k2), (3, aI x5), (4, aI z22), (5, aI (x5 + 1))] σ20 Q)))))))))))))))) : g_X6_clashing (d + 1) 14 [(0, aN 30), (1, aI x1), (2, aN k2), (3, aI x3), (4, aI x4), (5, aI x5)] σ Q := by
  intro p l e s m args below meth c D cy ad base H locs ls C w hl
  obtain ⟨hx, hb, hml, hown, hts, hr, hlk⟩ := id C
  have hl : lv_has ls 8 [(0, .ref (ad 30)), (1, .int x1), (2, .ref (ad k2)), (3, .int x3), (4, .int x4), (5, .int x5)] := hl
  refine lv_iload hx hb dX6_clashing_14 (lv_at hl 5 rfl) ?_
  refine lv_bipush (v := 12) hx hb dX6_clashing_16 (by decide) ?_
  refine lv_icmp_ge (tgt := 105) hx hb dX6_clashing_18 (by decide) (fun c1 => ?_) (fun c1 => ?_)
  · have h := h.1 c1
    refine lv_iload_n hx hb dX6_clashing_105 rfl (lv_at hl 3 rfl) ?_
    exact tk_reti C w dX6_clashing_106 h
  · have h := h.2 c1
    refine lv_iload_n hx hb dX6_clashing_21 rfl (lv_at hl 1 rfl) ?_
    refine lv_iload hx hb dX6_clashing_22 (lv_at hl 5 rfl) ?_
    refine tk_cSN C w (as := [aI x1, aI x5]) (rest := []) mw_216 mw_2 (List.mem_of_getElem? (i := 13) rfl) mw_215 hd_X7_has (by decide) hl.1 (Nat.le_of_ble_eq_true rfl) rfl dX6_clashing_24 h (fun r2 σ3 H locs hq w => ?_)
    obtain ⟨y4, rfl, h⟩ := hq
    refine W.eq (g2 := F0 m 27 ls [.int y4]) rfl ?_
    refine lv_if_eq (tgt := 99) hx hb dX6_clashing_27 (by decide) (fun c5 => ?_) (fun c5 => ?_)
    · have h := h.1 c5
      refine lv_iinc (v := x5 + 1) (lv' := [(5, .int (x5 + 1)), (0, .ref (ad 30)), (1, .int x1), (2, .ref (ad k2)), (3, .int x3), (4, .int x4)]) hx hb dX6_clashing_99 hl (k := 5) rfl rfl (by decide) rfl (fun ls hl => ?_)
      refine lv_goto (tgt := 14) hx hb dX6_clashing_102 (by decide) ?_
      exact h _ _ _ _ _ _ _ _ _ _ _ _ _ _ _ _ C w (lv_sub hl [1, 2, 3, 4, 5, 0] rfl)
    · have h := h.2 c5
      refine lv_aload_n hx hb dX6_clashing_30 rfl (lv_at hl 0 rfl) ?_
      refine tk_get (k := 30) (v := .ref (ad 33)) hx hb hts hown w rfl rfl inlX6 2 (by decide) mw_75 rfl dX6_clashing_31 ?_
      refine lv_iload hx hb dX6_clashing_34 (lv_at hl 5 rfl) ?_
      obtain ⟨hi6, h⟩ := h
      refine tk_iald (k := 33) hx hb w rfl hi6 dX6_clashing_36 ?_
      refine lv_aload_n hx hb dX6_clashing_37 rfl (lv_at hl 0 rfl) ?_
      refine lv_aload_n hx hb dX6_clashing_38 rfl (lv_at hl 0 rfl) ?_
      refine tk_get (k := 30) (v := .ref (ad 35)) hx hb hts hown w rfl rfl inlX6 4 (by decide) mw_77 rfl dX6_clashing_39 ?_
      refine lv_aload_n hx hb dX6_clashing_42 rfl (lv_at hl 2 rfl) ?_
      refine lv_iload hx hb dX6_clashing_43 (lv_at hl 5 rfl) ?_
      obtain ⟨hi7, h⟩ := h
      refine tk_iald (k := k2) hx hb w h_2 hi7 dX6_clashing_45 ?_
      obtain ⟨hi8, h⟩ := h
      refine tk_iald (k := 35) hx hb w rfl hi8 dX6_clashing_46 ?_
      refine tk_cV C w (k := 30) rfl rfl (as := [aI (σ3.1 35 (Int32.toNatClampNeg (σ3.1 k2 (Int32.toNatClampNeg x5))))]) (rest := [.int (σ3.1 33 (Int32.toNatClampNeg x5))]) mw_613 mw_39 mw_610 mw_611 mw_612 hd_X6_clashWith (by decide) hl.1 (Nat.le_of_ble_eq_true rfl) rfl dX6_clashing_47 h (fun r9 σ10 H locs hq w => ?_)
      obtain ⟨y11, rfl, h⟩ := hq
      refine W.eq (g2 := F0 m 50 ls [.int y11, .int (σ3.1 33 (Int32.toNatClampNeg x5))]) rfl ?_
      refine lv_iand hx hb dX6_clashing_50 ?_
      refine lv_if_eq (tgt := 99) hx hb dX6_clashing_51 (by decide) (fun c12 => ?_) (fun c12 => ?_)
      · have h := h.1 c12
        refine lv_iinc (v := x5 + 1) (lv' := [(5, .int (x5 + 1)), (0, .ref (ad 30)), (1, .int x1), (2, .ref (ad k2)), (3, .int x3), (4, .int x4)]) hx hb dX6_clashing_99 hl (k := 5) rfl rfl (by decide) rfl (fun ls hl => ?_)
        refine lv_goto (tgt := 14) hx hb dX6_clashing_102 (by decide) ?_
        exact h _ _ _ _ _ _ _ _ _ _ _ _ _ _ _ _ C w (lv_sub hl [1, 2, 3, 4, 5, 0] rfl)
      · have h := h.2 c12
        refine lv_iconst (v := 4) hx hb dX6_clashing_54 (by decide) ?_
        refine lv_aload_n hx hb dX6_clashing_55 rfl (lv_at hl 2 rfl) ?_
        refine lv_iload hx hb dX6_clashing_56 (lv_at hl 5 rfl) ?_
        obtain ⟨hi13, h⟩ := h
        refine tk_iald (k := k2) hx hb w h_2 hi13 dX6_clashing_58 ?_
        refine tk_cS C w (as := [aI (σ10.1 k2 (Int32.toNatClampNeg x5))]) (rest := [.int 4]) mw_361 mw_360 mw_614 mw_359 hd_J6_bitCount_0f7a4 (by decide) hl.1 (Nat.le_of_ble_eq_true rfl) rfl dX6_clashing_59 h (fun r14 σ15 H locs hq w => ?_)
        obtain ⟨y16, rfl, h⟩ := hq
        refine W.eq (g2 := F0 m 62 ls [.int y16, .int 4]) rfl ?_
        refine lv_isub hx hb dX6_clashing_62 ?_
        refine lv_topi (fun z17 e_z17 => ?_)
        have h := h z17 e_z17
        refine lv_istore (lv' := [(6, .int z17), (0, .ref (ad 30)), (1, .int x1), (2, .ref (ad k2)), (3, .int x3), (4, .int x4), (5, .int x5)]) hx hb dX6_clashing_63 hl (by decide) rfl (fun ls hl => ?_)
        refine lv_iload hx hb dX6_clashing_65 (lv_at hl 0 rfl) ?_
        refine lv_bipush (v := 12) hx hb dX6_clashing_67 (by decide) ?_
        refine lv_imul hx hb dX6_clashing_69 ?_
        refine lv_aload_n hx hb dX6_clashing_70 rfl (lv_at hl 1 rfl) ?_
        refine tk_get (k := 30) (v := .ref (ad 33)) hx hb hts hown w rfl rfl inlX6 2 (by decide) mw_75 rfl dX6_clashing_71 ?_
        refine lv_iload hx hb dX6_clashing_74 (lv_at hl 6 rfl) ?_
        obtain ⟨hi18, h⟩ := h
        refine tk_iald (k := 33) hx hb w rfl hi18 dX6_clashing_76 ?_
        refine lv_iload_n hx hb dX6_clashing_77 rfl (lv_at hl 2 rfl) ?_
        refine lv_iand hx hb dX6_clashing_78 ?_
        refine tk_cS C w (as := [aI ((σ15.1 33 (Int32.toNatClampNeg x5)) &&& x1)]) (rest := [.int (z17 * 12)]) mw_361 mw_360 mw_614 mw_359 hd_J6_bitCount_0f7a4 (by decide) hl.1 (Nat.le_of_ble_eq_true rfl) rfl dX6_clashing_79 h (fun r19 σ20 H locs hq w => ?_)
        obtain ⟨y21, rfl, h⟩ := hq
        refine W.eq (g2 := F0 m 82 ls [.int y21, .int (z17 * 12)]) rfl ?_
        refine lv_iadd hx hb dX6_clashing_82 ?_
        refine lv_topi (fun z22 e_z22 => ?_)
        have h := h z22 e_z22
        refine lv_istore (lv' := [(7, .int z22), (6, .int z17), (0, .ref (ad 30)), (1, .int x1), (2, .ref (ad k2)), (3, .int x3), (4, .int x4), (5, .int x5)]) hx hb dX6_clashing_83 hl (by decide) rfl (fun ls hl => ?_)
        refine lv_iload hx hb dX6_clashing_85 (lv_at hl 0 rfl) ?_
        refine lv_iload hx hb dX6_clashing_87 (lv_at hl 6 rfl) ?_
        refine lv_icmp_le (tgt := 99) hx hb dX6_clashing_89 (by decide) (fun c23 => ?_) (fun c23 => ?_)
        · have h := h.1 c23
          refine lv_iinc (v := x5 + 1) (lv' := [(5, .int (x5 + 1)), (7, .int z22), (6, .int z17), (0, .ref (ad 30)), (1, .int x1), (2, .ref (ad k2)), (3, .int x3), (4, .int x4)]) hx hb dX6_clashing_99 hl (k := 7) rfl rfl (by decide) rfl (fun ls hl => ?_)
          refine lv_goto (tgt := 14) hx hb dX6_clashing_102 (by decide) ?_
          exact h _ _ _ _ _ _ _ _ _ _ _ _ _ _ _ _ C w (lv_sub hl [3, 4, 5, 6, 7, 0] rfl)
        · have h := h.2 c23
          refine lv_iload hx hb dX6_clashing_92 (lv_at hl 7 rfl) ?_
          refine lv_istore_n (lv' := [(3, .int x5), (7, .int z22), (6, .int z17), (0, .ref (ad 30)), (1, .int x1), (2, .ref (ad k2)), (4, .int x4), (5, .int x5)]) hx hb dX6_clashing_94 rfl hl (by decide) rfl (fun ls hl => ?_)
          refine lv_iload hx hb dX6_clashing_95 (lv_at hl 1 rfl) ?_
          refine lv_istore (lv' := [(4, .int z22), (3, .int x5), (7, .int z22), (6, .int z17), (0, .ref (ad 30)), (1, .int x1), (2, .ref (ad k2)), (5, .int x5)]) hx hb dX6_clashing_97 hl (by decide) rfl (fun ls hl => ?_)
          refine lv_iinc (v := x5 + 1) (lv' := [(5, .int (x5 + 1)), (4, .int z22), (3, .int x5), (7, .int z22), (6, .int z17), (0, .ref (ad 30)), (1, .int x1), (2, .ref (ad k2))]) hx hb dX6_clashing_99 hl (k := 7) rfl rfl (by decide) rfl (fun ls hl => ?_)
          refine lv_goto (tgt := 14) hx hb dX6_clashing_102 (by decide) ?_
          exact h _ _ _ _ _ _ _ _ _ _ _ _ _ _ _ _ C w (lv_sub hl [5, 6, 7, 2, 1, 0] rfl)
set_option maxHeartbeats 4000000 in
set_option maxRecDepth 100000 in
theorem b_X6_clashing_0 (d : Nat) (x1 : Int32) (k2 : Nat) (h_2 : tk_sh k2 = tk_ia 12) (σ : tk_S) (Q : Int32 → tk_S → Prop) (h : p_X6_listTakers d [aN 30, aI x1, aN k2] σ (fun σ2 => g_X6_clashing (d + 1) 14 [(0, aN 30), (1, aI x1), (2, aN k2), (3, aI (-1)), (4, aI (-1)), (5, aI 0)] σ2 Q)) : g_X6_clashing (d + 1) 0 [(0, aN 30), (1, aI x1), (2, aN k2)] σ Q := by
  intro p l e s m args below meth c D cy ad base H locs ls C w hl
  obtain ⟨hx, hb, hml, hown, hts, hr, hlk⟩ := id C
  have hl : lv_has ls 8 [(0, .ref (ad 30)), (1, .int x1), (2, .ref (ad k2))] := hl
  refine lv_aload_n hx hb dX6_clashing_0 rfl (lv_at hl 0 rfl) ?_
  refine lv_iload_n hx hb dX6_clashing_1 rfl (lv_at hl 1 rfl) ?_
  refine lv_aload_n hx hb dX6_clashing_2 rfl (lv_at hl 2 rfl) ?_
  refine tk_cV C w (k := 30) rfl rfl (as := [aI x1, aN k2]) (rest := []) mw_609 mw_39 mw_606 mw_607 mw_608 hd_X6_listTakers (by decide) hl.1 (Nat.le_of_ble_eq_true rfl) rfl dX6_clashing_3 h (fun r1 σ2 H locs hq w => ?_)
  obtain ⟨rfl, h⟩ := hq
  refine W.eq (g2 := F0 m 6 ls []) rfl ?_
  refine lv_iconst (v := (-1)) hx hb dX6_clashing_6 (by decide) ?_
  refine lv_istore_n (lv' := [(3, .int (-1)), (0, .ref (ad 30)), (1, .int x1), (2, .ref (ad k2))]) hx hb dX6_clashing_7 rfl hl (by decide) rfl (fun ls hl => ?_)
  refine lv_iconst (v := (-1)) hx hb dX6_clashing_8 (by decide) ?_
  refine lv_istore (lv' := [(4, .int (-1)), (3, .int (-1)), (0, .ref (ad 30)), (1, .int x1), (2, .ref (ad k2))]) hx hb dX6_clashing_9 hl (by decide) rfl (fun ls hl => ?_)
  refine lv_iconst (v := 0) hx hb dX6_clashing_11 (by decide) ?_
  refine lv_istore (lv' := [(5, .int 0), (4, .int (-1)), (3, .int (-1)), (0, .ref (ad 30)), (1, .int x1), (2, .ref (ad k2))]) hx hb dX6_clashing_12 hl (by decide) rfl (fun ls hl => ?_)
  exact h _ _ _ _ _ _ _ _ _ _ _ _ _ _ _ _ C w (lv_sub hl [3, 4, 5, 2, 1, 0] rfl)
theorem e_X6_clashing (d : Nat) (x1 : Int32) (k2 : Nat) {σ : tk_S} {Q : Int32 → tk_S → Prop} (h : g_X6_clashing d 0 [(0, aN 30), (1, aI x1), (2, aN k2)] σ Q) : p_X6_clashing d [aN 30, aI x1, aN k2] σ Q := tk_entry (by decide) rfl (fun _ => Nat.le_of_ble_eq_true rfl) (fun _ => rfl) h
abbrev g_X6_listTakers (d pc : Nat) (vals : List (Nat × tk_V)) (σ : tk_S) (Q : tk_S → Prop) : Prop := tk_G RX6 cX6_listTakers 4 none d pc vals σ (tk_v Q)
set_option maxHeartbeats 4000000 in
set_option maxRecDepth 100000 in
theorem b_X6_listTakers_22 (d : Nat) (x1 : Int32) (k2 : Nat) (h_2 : tk_sh k2 = tk_ia 12) (x3 : Int32) (σ : tk_S) (Q : tk_S → Prop) (h : (12 ≤ x3 → Q σ) ∧ (¬ 12 ≤ x3 → p_X7_has d [aI x1, aI x3] σ (fun y4 σ3 => (y4 = 0 → g_X6_listTakers (d + 1) 22 [(0, aN 30), (1, aI x1), (2, aN k2), (3, aI (x3 + 1))] σ3 Q) ∧ (¬ y4 = 0 → vp_in x3 12 ∧ (vp_in (σ3.1 k2 (Int32.toNatClampNeg x3)) 16 ∧ (vp_in (σ3.1 35 (Int32.toNatClampNeg (σ3.1 k2 (Int32.toNatClampNeg x3)))) 4 ∧ (vp_in (σ3.1 35 (Int32.toNatClampNeg (σ3.1 k2 (Int32.toNatClampNeg x3)))) 4 ∧ (g_X6_listTakers (d + 1) 22 [(0, aN 30), (1, aI x1), (2, aN k2), (3, aI (x3 + 1))] (tk_up σ3 36 (Int32.toNatClampNeg (σ3.1 35 (Int32.toNatClampNeg (σ3.1 k2 (Int32.toNatClampNeg x3))))) ((σ3.1 36 (Int32.toNatClampNeg (σ3.1 35 (Int32.toNatClampNeg (σ3.1 k2 (Int32.toNatClampNeg x3)))))) ||| ((1 : Int32) <<< (x3 &&& 31)))) Q)))))))) : g_X6_listTakers (d + 1) 22 [(0, aN 30), (1, aI x1), (2, aN k2), (3, aI x3)] σ Q := by
  intro p l e s m args below meth c D cy ad base H locs ls C w hl
  obtain ⟨hx, hb, hml, hown, hts, hr, hlk⟩ := id C
  have hl : lv_has ls 4 [(0, .ref (ad 30)), (1, .int x1), (2, .ref (ad k2)), (3, .int x3)] := hl
  refine lv_iload_n hx hb dX6_listTakers_22 rfl (lv_at hl 3 rfl) ?_
  refine lv_bipush (v := 12) hx hb dX6_listTakers_23 (by decide) ?_
  refine lv_icmp_ge (tgt := 61) hx hb dX6_listTakers_25 (by decide) (fun c1 => ?_) (fun c1 => ?_)
  · have h := h.1 c1
    exact tk_retv C w dX6_listTakers_61 h
  · have h := h.2 c1
    refine lv_iload_n hx hb dX6_listTakers_28 rfl (lv_at hl 1 rfl) ?_
    refine lv_iload_n hx hb dX6_listTakers_29 rfl (lv_at hl 3 rfl) ?_
    refine tk_cSN C w (as := [aI x1, aI x3]) (rest := []) mw_216 mw_2 (List.mem_of_getElem? (i := 13) rfl) mw_215 hd_X7_has (by decide) hl.1 (Nat.le_of_ble_eq_true rfl) rfl dX6_listTakers_30 h (fun r2 σ3 H locs hq w => ?_)
    obtain ⟨y4, rfl, h⟩ := hq
    refine W.eq (g2 := F0 m 33 ls [.int y4]) rfl ?_
    refine lv_if_eq (tgt := 55) hx hb dX6_listTakers_33 (by decide) (fun c5 => ?_) (fun c5 => ?_)
    · have h := h.1 c5
      refine lv_iinc (v := x3 + 1) (lv' := [(3, .int (x3 + 1)), (0, .ref (ad 30)), (1, .int x1), (2, .ref (ad k2))]) hx hb dX6_listTakers_55 hl (k := 3) rfl rfl (by decide) rfl (fun ls hl => ?_)
      refine lv_goto (tgt := 22) hx hb dX6_listTakers_58 (by decide) ?_
      exact h _ _ _ _ _ _ _ _ _ _ _ _ _ _ _ _ C w (lv_sub hl [1, 2, 3, 0] rfl)
    · have h := h.2 c5
      refine lv_aload_n hx hb dX6_listTakers_36 rfl (lv_at hl 0 rfl) ?_
      refine tk_get (k := 30) (v := .ref (ad 36)) hx hb hts hown w rfl rfl inlX6 5 (by decide) mw_78 rfl dX6_listTakers_37 ?_
      refine lv_aload_n hx hb dX6_listTakers_40 rfl (lv_at hl 0 rfl) ?_
      refine tk_get (k := 30) (v := .ref (ad 35)) hx hb hts hown w rfl rfl inlX6 4 (by decide) mw_77 rfl dX6_listTakers_41 ?_
      refine lv_aload_n hx hb dX6_listTakers_44 rfl (lv_at hl 2 rfl) ?_
      refine lv_iload_n hx hb dX6_listTakers_45 rfl (lv_at hl 3 rfl) ?_
      obtain ⟨hi6, h⟩ := h
      refine tk_iald (k := k2) hx hb w h_2 hi6 dX6_listTakers_46 ?_
      obtain ⟨hi7, h⟩ := h
      refine tk_iald (k := 35) hx hb w rfl hi7 dX6_listTakers_47 ?_
      refine lv_dup2_11 hx hb dX6_listTakers_48 rfl rfl ?_
      obtain ⟨hi8, h⟩ := h
      refine tk_iald (k := 36) hx hb w rfl hi8 dX6_listTakers_49 ?_
      refine lv_iconst (v := 1) hx hb dX6_listTakers_50 (by decide) ?_
      refine lv_iload_n hx hb dX6_listTakers_51 rfl (lv_at hl 3 rfl) ?_
      refine lv_ishl hx hb dX6_listTakers_52 ?_
      refine lv_ior hx hb dX6_listTakers_53 ?_
      obtain ⟨hi9, h⟩ := h
      refine tk_iast (k := 36) hx hb w rfl hi9 dX6_listTakers_54 (fun H locs w => ?_)
      refine lv_iinc (v := x3 + 1) (lv' := [(3, .int (x3 + 1)), (0, .ref (ad 30)), (1, .int x1), (2, .ref (ad k2))]) hx hb dX6_listTakers_55 hl (k := 3) rfl rfl (by decide) rfl (fun ls hl => ?_)
      refine lv_goto (tgt := 22) hx hb dX6_listTakers_58 (by decide) ?_
      exact h _ _ _ _ _ _ _ _ _ _ _ _ _ _ _ _ C w (lv_sub hl [1, 2, 3, 0] rfl)
set_option maxHeartbeats 4000000 in
set_option maxRecDepth 100000 in
theorem b_X6_listTakers_2 (d : Nat) (x1 : Int32) (k2 : Nat) (h_2 : tk_sh k2 = tk_ia 12) (x3 : Int32) (σ : tk_S) (Q : tk_S → Prop) (h : (4 ≤ x3 → g_X6_listTakers (d + 1) 22 [(0, aN 30), (1, aI x1), (2, aN k2), (3, aI 0)] σ Q) ∧ (¬ 4 ≤ x3 → vp_in x3 4 ∧ (g_X6_listTakers (d + 1) 2 [(0, aN 30), (1, aI x1), (2, aN k2), (3, aI (x3 + 1))] (tk_up σ 36 (Int32.toNatClampNeg x3) 0) Q))) : g_X6_listTakers (d + 1) 2 [(0, aN 30), (1, aI x1), (2, aN k2), (3, aI x3)] σ Q := by
  intro p l e s m args below meth c D cy ad base H locs ls C w hl
  obtain ⟨hx, hb, hml, hown, hts, hr, hlk⟩ := id C
  have hl : lv_has ls 4 [(0, .ref (ad 30)), (1, .int x1), (2, .ref (ad k2)), (3, .int x3)] := hl
  refine lv_iload_n hx hb dX6_listTakers_2 rfl (lv_at hl 3 rfl) ?_
  refine lv_iconst (v := 4) hx hb dX6_listTakers_3 (by decide) ?_
  refine lv_icmp_ge (tgt := 20) hx hb dX6_listTakers_4 (by decide) (fun c1 => ?_) (fun c1 => ?_)
  · have h := h.1 c1
    refine lv_iconst (v := 0) hx hb dX6_listTakers_20 (by decide) ?_
    refine lv_istore_n (lv' := [(3, .int 0), (0, .ref (ad 30)), (1, .int x1), (2, .ref (ad k2))]) hx hb dX6_listTakers_21 rfl hl (by decide) rfl (fun ls hl => ?_)
    exact h _ _ _ _ _ _ _ _ _ _ _ _ _ _ _ _ C w (lv_sub hl [1, 2, 3, 0] rfl)
  · have h := h.2 c1
    refine lv_aload_n hx hb dX6_listTakers_7 rfl (lv_at hl 0 rfl) ?_
    refine tk_get (k := 30) (v := .ref (ad 36)) hx hb hts hown w rfl rfl inlX6 5 (by decide) mw_78 rfl dX6_listTakers_8 ?_
    refine lv_iload_n hx hb dX6_listTakers_11 rfl (lv_at hl 3 rfl) ?_
    refine lv_iconst (v := 0) hx hb dX6_listTakers_12 (by decide) ?_
    obtain ⟨hi2, h⟩ := h
    refine tk_iast (k := 36) hx hb w rfl hi2 dX6_listTakers_13 (fun H locs w => ?_)
    refine lv_iinc (v := x3 + 1) (lv' := [(3, .int (x3 + 1)), (0, .ref (ad 30)), (1, .int x1), (2, .ref (ad k2))]) hx hb dX6_listTakers_14 hl (k := 3) rfl rfl (by decide) rfl (fun ls hl => ?_)
    refine lv_goto (tgt := 2) hx hb dX6_listTakers_17 (by decide) ?_
    exact h _ _ _ _ _ _ _ _ _ _ _ _ _ _ _ _ C w (lv_sub hl [1, 2, 3, 0] rfl)
set_option maxHeartbeats 4000000 in
set_option maxRecDepth 100000 in
theorem b_X6_listTakers_0 (d : Nat) (x1 : Int32) (k2 : Nat) (h_2 : tk_sh k2 = tk_ia 12) (σ : tk_S) (Q : tk_S → Prop) (h : g_X6_listTakers (d + 1) 2 [(0, aN 30), (1, aI x1), (2, aN k2), (3, aI 0)] σ Q) : g_X6_listTakers (d + 1) 0 [(0, aN 30), (1, aI x1), (2, aN k2)] σ Q := by
  intro p l e s m args below meth c D cy ad base H locs ls C w hl
  obtain ⟨hx, hb, hml, hown, hts, hr, hlk⟩ := id C
  have hl : lv_has ls 4 [(0, .ref (ad 30)), (1, .int x1), (2, .ref (ad k2))] := hl
  refine lv_iconst (v := 0) hx hb dX6_listTakers_0 (by decide) ?_
  refine lv_istore_n (lv' := [(3, .int 0), (0, .ref (ad 30)), (1, .int x1), (2, .ref (ad k2))]) hx hb dX6_listTakers_1 rfl hl (by decide) rfl (fun ls hl => ?_)
  exact h _ _ _ _ _ _ _ _ _ _ _ _ _ _ _ _ C w (lv_sub hl [1, 2, 3, 0] rfl)
theorem e_X6_listTakers (d : Nat) (x1 : Int32) (k2 : Nat) {σ : tk_S} {Q : tk_S → Prop} (h : g_X6_listTakers d 0 [(0, aN 30), (1, aI x1), (2, aN k2)] σ Q) : p_X6_listTakers d [aN 30, aI x1, aN k2] σ Q := tk_entry (by decide) rfl (fun _ => Nat.le_of_ble_eq_true rfl) (fun _ => rfl) h
abbrev g_X6_clashWith (d pc : Nat) (vals : List (Nat × tk_V)) (σ : tk_S) (Q : Int32 → tk_S → Prop) : Prop := tk_G RX6 cX6_clashWith 4 (some .int) d pc vals σ (tk_i Q)
set_option maxHeartbeats 4000000 in
set_option maxRecDepth 100000 in
theorem b_X6_clashWith_4 (d : Nat) (x1 : Int32) (x2 : Int32) (x3 : Int32) (σ : tk_S) (Q : Int32 → tk_S → Prop) (h : (4 ≤ x3 → Q x2 σ) ∧ (¬ 4 ≤ x3 → vp_in x1 4 ∧ (p_X7_has d [aI (σ.1 31 (Int32.toNatClampNeg x1)), aI x3] σ (fun y5 σ4 => (y5 = 0 → vp_in x3 4 ∧ (∀ z8 : Int32, z8 = x2 ||| (σ4.1 36 (Int32.toNatClampNeg x3)) → (g_X6_clashWith (d + 1) 4 [(0, aN 30), (1, aI x1), (2, aI z8), (3, aI (x3 + 1))] σ4 Q))) ∧ (¬ y5 = 0 → ∀ z9 : Int32, z9 = x2 ||| 0 → (g_X6_clashWith (d + 1) 4 [(0, aN 30), (1, aI x1), (2, aI z9), (3, aI (x3 + 1))] σ4 Q)))))) : g_X6_clashWith (d + 1) 4 [(0, aN 30), (1, aI x1), (2, aI x2), (3, aI x3)] σ Q := by
  intro p l e s m args below meth c D cy ad base H locs ls C w hl
  obtain ⟨hx, hb, hml, hown, hts, hr, hlk⟩ := id C
  have hl : lv_has ls 4 [(0, .ref (ad 30)), (1, .int x1), (2, .int x2), (3, .int x3)] := hl
  refine lv_iload_n hx hb dX6_clashWith_4 rfl (lv_at hl 3 rfl) ?_
  refine lv_iconst (v := 4) hx hb dX6_clashWith_5 (by decide) ?_
  refine lv_icmp_ge (tgt := 41) hx hb dX6_clashWith_6 (by decide) (fun c1 => ?_) (fun c1 => ?_)
  · have h := h.1 c1
    refine lv_iload_n hx hb dX6_clashWith_41 rfl (lv_at hl 2 rfl) ?_
    exact tk_reti C w dX6_clashWith_42 h
  · have h := h.2 c1
    refine lv_iload_n hx hb dX6_clashWith_9 rfl (lv_at hl 2 rfl) ?_
    refine lv_aload_n hx hb dX6_clashWith_10 rfl (lv_at hl 0 rfl) ?_
    refine tk_get (k := 30) (v := .ref (ad 31)) hx hb hts hown w rfl rfl inlX6 0 (by decide) mw_73 rfl dX6_clashWith_11 ?_
    refine lv_iload_n hx hb dX6_clashWith_14 rfl (lv_at hl 1 rfl) ?_
    obtain ⟨hi2, h⟩ := h
    refine tk_iald (k := 31) hx hb w rfl hi2 dX6_clashWith_15 ?_
    refine lv_iload_n hx hb dX6_clashWith_16 rfl (lv_at hl 3 rfl) ?_
    refine tk_cSN C w (as := [aI (σ.1 31 (Int32.toNatClampNeg x1)), aI x3]) (rest := [.int x2]) mw_216 mw_2 (List.mem_of_getElem? (i := 13) rfl) mw_215 hd_X7_has (by decide) hl.1 (Nat.le_of_ble_eq_true rfl) rfl dX6_clashWith_17 h (fun r3 σ4 H locs hq w => ?_)
    obtain ⟨y5, rfl, h⟩ := hq
    refine W.eq (g2 := F0 m 20 ls [.int y5, .int x2]) rfl ?_
    refine lv_if_eq (tgt := 27) hx hb dX6_clashWith_20 (by decide) (fun c6 => ?_) (fun c6 => ?_)
    · have h := h.1 c6
      refine lv_aload_n hx hb dX6_clashWith_27 rfl (lv_at hl 0 rfl) ?_
      refine tk_get (k := 30) (v := .ref (ad 36)) hx hb hts hown w rfl rfl inlX6 5 (by decide) mw_78 rfl dX6_clashWith_28 ?_
      refine lv_iload_n hx hb dX6_clashWith_31 rfl (lv_at hl 3 rfl) ?_
      obtain ⟨hi7, h⟩ := h
      refine tk_iald (k := 36) hx hb w rfl hi7 dX6_clashWith_32 ?_
      refine lv_ior hx hb dX6_clashWith_33 ?_
      refine lv_topi (fun z8 e_z8 => ?_)
      have h := h z8 e_z8
      refine lv_istore_n (lv' := [(2, .int z8), (0, .ref (ad 30)), (1, .int x1), (3, .int x3)]) hx hb dX6_clashWith_34 rfl hl (by decide) rfl (fun ls hl => ?_)
      refine lv_iinc (v := x3 + 1) (lv' := [(3, .int (x3 + 1)), (2, .int z8), (0, .ref (ad 30)), (1, .int x1)]) hx hb dX6_clashWith_35 hl (k := 3) rfl rfl (by decide) rfl (fun ls hl => ?_)
      refine lv_goto (tgt := 4) hx hb dX6_clashWith_38 (by decide) ?_
      exact h _ _ _ _ _ _ _ _ _ _ _ _ _ _ _ _ C w (lv_sub hl [2, 3, 1, 0] rfl)
    · have h := h.2 c6
      refine lv_iconst (v := 0) hx hb dX6_clashWith_23 (by decide) ?_
      refine lv_goto (tgt := 33) hx hb dX6_clashWith_24 (by decide) ?_
      refine lv_ior hx hb dX6_clashWith_33 ?_
      refine lv_topi (fun z9 e_z9 => ?_)
      have h := h z9 e_z9
      refine lv_istore_n (lv' := [(2, .int z9), (0, .ref (ad 30)), (1, .int x1), (3, .int x3)]) hx hb dX6_clashWith_34 rfl hl (by decide) rfl (fun ls hl => ?_)
      refine lv_iinc (v := x3 + 1) (lv' := [(3, .int (x3 + 1)), (2, .int z9), (0, .ref (ad 30)), (1, .int x1)]) hx hb dX6_clashWith_35 hl (k := 3) rfl rfl (by decide) rfl (fun ls hl => ?_)
      refine lv_goto (tgt := 4) hx hb dX6_clashWith_38 (by decide) ?_
      exact h _ _ _ _ _ _ _ _ _ _ _ _ _ _ _ _ C w (lv_sub hl [2, 3, 1, 0] rfl)
set_option maxHeartbeats 4000000 in
set_option maxRecDepth 100000 in
theorem b_X6_clashWith_0 (d : Nat) (x1 : Int32) (σ : tk_S) (Q : Int32 → tk_S → Prop) (h : g_X6_clashWith (d + 1) 4 [(0, aN 30), (1, aI x1), (2, aI 0), (3, aI 0)] σ Q) : g_X6_clashWith (d + 1) 0 [(0, aN 30), (1, aI x1)] σ Q := by
  intro p l e s m args below meth c D cy ad base H locs ls C w hl
  obtain ⟨hx, hb, hml, hown, hts, hr, hlk⟩ := id C
  have hl : lv_has ls 4 [(0, .ref (ad 30)), (1, .int x1)] := hl
  refine lv_iconst (v := 0) hx hb dX6_clashWith_0 (by decide) ?_
  refine lv_istore_n (lv' := [(2, .int 0), (0, .ref (ad 30)), (1, .int x1)]) hx hb dX6_clashWith_1 rfl hl (by decide) rfl (fun ls hl => ?_)
  refine lv_iconst (v := 0) hx hb dX6_clashWith_2 (by decide) ?_
  refine lv_istore_n (lv' := [(3, .int 0), (2, .int 0), (0, .ref (ad 30)), (1, .int x1)]) hx hb dX6_clashWith_3 rfl hl (by decide) rfl (fun ls hl => ?_)
  exact h _ _ _ _ _ _ _ _ _ _ _ _ _ _ _ _ C w (lv_sub hl [2, 3, 1, 0] rfl)
theorem e_X6_clashWith (d : Nat) (x1 : Int32) {σ : tk_S} {Q : Int32 → tk_S → Prop} (h : g_X6_clashWith d 0 [(0, aN 30), (1, aI x1)] σ Q) : p_X6_clashWith d [aN 30, aI x1] σ Q := tk_entry (by decide) rfl (fun _ => Nat.le_of_ble_eq_true rfl) (fun _ => rfl) h
