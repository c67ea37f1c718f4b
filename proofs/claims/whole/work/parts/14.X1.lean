abbrev g_X1_choose (d pc : Nat) (vals : List (Nat × tk_V)) (σ : tk_S) (Q : tk_S → Prop) : Prop := tk_G RX1 cX1_choose 5 none d pc vals σ (tk_v Q)
set_option maxHeartbeats 4000000 in
set_option maxRecDepth 100000 in
theorem b_X1_choose_3 (d : Nat) (x3 : Int32) (x4 : Int32) (σ : tk_S) (Q : tk_S → Prop) (h : (x3 ≤ x4 → p_X7_heaviest d [aI x3, aI (((1 : Int32) <<< (x3 &&& 31)) - 1), aN 51, aN 24] σ (fun y4 σ3 => Q (tk_up σ3 23 1 ((-y4) &&& 4095)))) ∧ (¬ x3 ≤ x4 → vp_in x4 12 ∧ (vp_in x4 12 ∧ (g_X1_choose (d + 1) 3 [(0, aN 23), (1, aN 1), (2, aN 51), (3, aI x3), (4, aI (x4 + 1))] (tk_up σ 24 (Int32.toNatClampNeg x4) ((((σ.1 (1 + 71 + 5 * Int32.toNatClampNeg x4) 1) <<< ((16 : Int32) &&& 31)) + 4096) - ((1 : Int32) <<< (x4 &&& 31)))) Q)))) : g_X1_choose (d + 1) 3 [(0, aN 23), (1, aN 1), (2, aN 51), (3, aI x3), (4, aI x4)] σ Q := by
  intro p l e s m args below meth c D cy ad base H locs ls C w hl
  obtain ⟨hx, hb, hml, hown, hts, hr, hlk⟩ := id C
  have hl : lv_has ls 5 [(0, .ref (ad 23)), (1, .ref (ad 1)), (2, .ref (ad 51)), (3, .int x3), (4, .int x4)] := hl
  refine lv_iload hx hb dX1_choose_3 (lv_at hl 4 rfl) ?_
  refine lv_iload_n hx hb dX1_choose_5 rfl (lv_at hl 3 rfl) ?_
  refine lv_icmp_ge (tgt := 41) hx hb dX1_choose_6 (by decide) (fun c1 => ?_) (fun c1 => ?_)
  · have h := h.1 c1
    refine lv_iload_n hx hb dX1_choose_41 rfl (lv_at hl 3 rfl) ?_
    refine lv_iconst (v := 1) hx hb dX1_choose_42 (by decide) ?_
    refine lv_iload_n hx hb dX1_choose_43 rfl (lv_at hl 3 rfl) ?_
    refine lv_ishl hx hb dX1_choose_44 ?_
    refine lv_iconst (v := 1) hx hb dX1_choose_45 (by decide) ?_
    refine lv_isub hx hb dX1_choose_46 ?_
    refine lv_aload_n hx hb dX1_choose_47 rfl (lv_at hl 2 rfl) ?_
    refine lv_aload_n hx hb dX1_choose_48 rfl (lv_at hl 0 rfl) ?_
    refine tk_get (k := 23) (v := .ref (ad 24)) hx hb hts hown w rfl rfl inlX1 0 (by decide) mw_61 rfl dX1_choose_49 ?_
    refine tk_cSN C w (as := [aI x3, aI (((1 : Int32) <<< (x3 &&& 31)) - 1), aN 51, aN 24]) (rest := []) mw_494 mw_2 (List.mem_of_getElem? (i := 11) rfl) mw_493 hd_X7_heaviest (by decide) hl.1 (Nat.le_of_ble_eq_true rfl) rfl dX1_choose_52 h (fun r2 σ3 H locs hq w => ?_)
    obtain ⟨y4, rfl, h⟩ := hq
    refine W.eq (g2 := F0 m 55 ls [.int y4]) rfl ?_
    refine lv_istore (lv' := [(4, .int y4), (0, .ref (ad 23)), (1, .ref (ad 1)), (2, .ref (ad 51)), (3, .int x3)]) hx hb dX1_choose_55 hl (by decide) rfl (fun ls hl => ?_)
    refine lv_aload_n hx hb dX1_choose_57 rfl (lv_at hl 1 rfl) ?_
    refine lv_iload hx hb dX1_choose_58 (lv_at hl 0 rfl) ?_
    refine lv_ineg hx hb dX1_choose_60 ?_
    refine lv_sipush (v := 4095) hx hb dX1_choose_61 (by decide) ?_
    refine lv_iand hx hb dX1_choose_64 ?_
    refine tk_puti (k := 23) (ty := .int) hx hb hts hown w rfl rfl inlX1 tyX1 tyX1_ok nmX1 1 (by decide) mw_492 rfl rfl (by decide +kernel) rfl rfl dX1_choose_65 (fun H locs w => ?_)
    exact tk_retv C w dX1_choose_68 h
  · have h := h.2 c1
    refine lv_aload_n hx hb dX1_choose_9 rfl (lv_at hl 0 rfl) ?_
    refine tk_get (k := 23) (v := .ref (ad 24)) hx hb hts hown w rfl rfl inlX1 0 (by decide) mw_61 rfl dX1_choose_10 ?_
    refine lv_iload hx hb dX1_choose_13 (lv_at hl 4 rfl) ?_
    refine lv_aload_n hx hb dX1_choose_15 rfl (lv_at hl 1 rfl) ?_
    refine lv_iload hx hb dX1_choose_16 (lv_at hl 4 rfl) ?_
    obtain ⟨hi5, h⟩ := h
    refine tk_aald (k := 1) (t := 0) (ty := .object "TouchSheet$Shape") hx hb w rfl (by decide) rfl rfl hi5 dX1_choose_18 ?_
    refine tk_get (k := 1 + 71 + 5 * Int32.toNatClampNeg x4) (v := .int (σ.1 (1 + 71 + 5 * Int32.toNatClampNeg x4) 1)) hx hb hts hown w (tk_r1 hi5) rfl inlX3 1 (by decide) mw_491 rfl dX1_choose_19 ?_
    refine lv_bipush (v := 16) hx hb dX1_choose_22 (by decide) ?_
    refine lv_ishl hx hb dX1_choose_24 ?_
    refine lv_sipush (v := 4096) hx hb dX1_choose_25 (by decide) ?_
    refine lv_iadd hx hb dX1_choose_28 ?_
    refine lv_iconst (v := 1) hx hb dX1_choose_29 (by decide) ?_
    refine lv_iload hx hb dX1_choose_30 (lv_at hl 4 rfl) ?_
    refine lv_ishl hx hb dX1_choose_32 ?_
    refine lv_isub hx hb dX1_choose_33 ?_
    obtain ⟨hi6, h⟩ := h
    refine tk_iast (k := 24) hx hb w rfl hi6 dX1_choose_34 (fun H locs w => ?_)
    refine lv_iinc (v := x4 + 1) (lv' := [(4, .int (x4 + 1)), (0, .ref (ad 23)), (1, .ref (ad 1)), (2, .ref (ad 51)), (3, .int x3)]) hx hb dX1_choose_35 hl (k := 4) rfl rfl (by decide) rfl (fun ls hl => ?_)
    refine lv_goto (tgt := 3) hx hb dX1_choose_38 (by decide) ?_
    exact h _ _ _ _ _ _ _ _ _ _ _ _ _ _ _ _ C w (lv_sub hl [1, 2, 3, 4, 0] rfl)
set_option maxHeartbeats 4000000 in
set_option maxRecDepth 100000 in
theorem b_X1_choose_0 (d : Nat) (x3 : Int32) (σ : tk_S) (Q : tk_S → Prop) (h : g_X1_choose (d + 1) 3 [(0, aN 23), (1, aN 1), (2, aN 51), (3, aI x3), (4, aI 0)] σ Q) : g_X1_choose (d + 1) 0 [(0, aN 23), (1, aN 1), (2, aN 51), (3, aI x3)] σ Q := by
  intro p l e s m args below meth c D cy ad base H locs ls C w hl
  obtain ⟨hx, hb, hml, hown, hts, hr, hlk⟩ := id C
  have hl : lv_has ls 5 [(0, .ref (ad 23)), (1, .ref (ad 1)), (2, .ref (ad 51)), (3, .int x3)] := hl
  refine lv_iconst (v := 0) hx hb dX1_choose_0 (by decide) ?_
  refine lv_istore (lv' := [(4, .int 0), (0, .ref (ad 23)), (1, .ref (ad 1)), (2, .ref (ad 51)), (3, .int x3)]) hx hb dX1_choose_1 hl (by decide) rfl (fun ls hl => ?_)
  exact h _ _ _ _ _ _ _ _ _ _ _ _ _ _ _ _ C w (lv_sub hl [1, 2, 3, 4, 0] rfl)
theorem e_X1_choose (d : Nat) (x3 : Int32) {σ : tk_S} {Q : tk_S → Prop} (h : g_X1_choose d 0 [(0, aN 23), (1, aN 1), (2, aN 51), (3, aI x3)] σ Q) : p_X1_choose d [aN 23, aN 1, aN 51, aI x3] σ Q := tk_entry (by decide) rfl (fun _ => Nat.le_of_ble_eq_true rfl) (fun _ => rfl) h
