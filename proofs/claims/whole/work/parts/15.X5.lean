abbrev g_X5_lay (d pc : Nat) (vals : List (Nat × tk_V)) (σ : tk_S) (Q : tk_S → Prop) : Prop := tk_G RX5 cX5_lay 5 none d pc vals σ (tk_v Q)
set_option maxHeartbeats 4000000 in
set_option maxRecDepth 100000 in
theorem b_X5_lay_52 (d : Nat) (x2 : Int32) (x4 : Int32) (σ : tk_S) (Q : tk_S → Prop) (h : (x2 < x4 → Q σ) ∧ (¬ x2 < x4 → p_X5_layOn d [aN 25, aI x4, aN 51, aI x2] σ (fun y4 σ3 => (y4 = 0 → g_X5_lay (d + 1) 52 [(0, aN 25), (1, aN 51), (2, aI x2), (4, aI (x4 + 1))] σ3 Q) ∧ (¬ y4 = 0 → Q (tk_up σ3 25 4 x4))))) : g_X5_lay (d + 1) 52 [(0, aN 25), (1, aN 51), (2, aI x2), (4, aI x4)] σ Q := by
  intro p l e s m args below meth c D cy ad base H locs ls C w hl
  obtain ⟨hx, hb, hml, hown, hts, hr, hlk⟩ := id C
  have hl : lv_has ls 5 [(0, .ref (ad 25)), (1, .ref (ad 51)), (2, .int x2), (4, .int x4)] := hl
  refine lv_iload hx hb dX5_lay_52 (lv_at hl 3 rfl) ?_
  refine lv_iload_n hx hb dX5_lay_54 rfl (lv_at hl 2 rfl) ?_
  refine lv_icmp_gt (tgt := 82) hx hb dX5_lay_55 (by decide) (fun c1 => ?_) (fun c1 => ?_)
  · have h := h.1 c1
    exact tk_retv C w dX5_lay_82 h
  · have h := h.2 c1
    refine lv_aload_n hx hb dX5_lay_58 rfl (lv_at hl 0 rfl) ?_
    refine lv_iload hx hb dX5_lay_59 (lv_at hl 3 rfl) ?_
    refine lv_aload_n hx hb dX5_lay_61 rfl (lv_at hl 1 rfl) ?_
    refine lv_iload_n hx hb dX5_lay_62 rfl (lv_at hl 2 rfl) ?_
    refine tk_cV C w (k := 25) rfl rfl (as := [aI x4, aN 51, aI x2]) (rest := []) mw_535 mw_35 mw_532 mw_533 mw_534 hd_X5_layOn (by decide) hl.1 (Nat.le_of_ble_eq_true rfl) rfl dX5_lay_63 h (fun r2 σ3 H locs hq w => ?_)
    obtain ⟨y4, rfl, h⟩ := hq
    refine W.eq (g2 := F0 m 66 ls [.int y4]) rfl ?_
    refine lv_if_eq (tgt := 76) hx hb dX5_lay_66 (by decide) (fun c5 => ?_) (fun c5 => ?_)
    · have h := h.1 c5
      refine lv_iinc (v := x4 + 1) (lv' := [(4, .int (x4 + 1)), (0, .ref (ad 25)), (1, .ref (ad 51)), (2, .int x2)]) hx hb dX5_lay_76 hl (k := 3) rfl rfl (by decide) rfl (fun ls hl => ?_)
      refine lv_goto (tgt := 52) hx hb dX5_lay_79 (by decide) ?_
      exact h _ _ _ _ _ _ _ _ _ _ _ _ _ _ _ _ C w (lv_sub hl [1, 2, 3, 0] rfl)
    · have h := h.2 c5
      refine lv_aload_n hx hb dX5_lay_69 rfl (lv_at hl 0 rfl) ?_
      refine lv_iload hx hb dX5_lay_70 (lv_at hl 3 rfl) ?_
      refine tk_puti (k := 25) (ty := .int) hx hb hts hown w rfl rfl inlX5 tyX5 tyX5_ok nmX5 4 (by decide) mw_531 rfl rfl (by decide +kernel) rfl rfl dX5_lay_72 (fun H locs w => ?_)
      exact tk_retv C w dX5_lay_75 h
set_option maxHeartbeats 4000000 in
set_option maxRecDepth 100000 in
theorem b_X5_lay_2 (d : Nat) (x2 : Int32) (x3 : Int32) (σ : tk_S) (Q : tk_S → Prop) (h : (x2 ≤ x3 → p_X7_heaviest d [aI x2, aI (((1 : Int32) <<< (x2 &&& 31)) - 1), aN 27, aN 28] σ (fun y4 σ3 => g_X5_lay (d + 1) 52 [(0, aN 25), (1, aN 51), (2, aI x2), (4, aI y4)] σ3 Q)) ∧ (¬ x2 ≤ x3 → vp_in x3 12 ∧ (vp_in x3 12 ∧ (vp_in x3 12 ∧ (∀ σ8 : tk_S, σ8 = tk_up (tk_up σ 27 (Int32.toNatClampNeg x3) ((σ.1 51 (Int32.toNatClampNeg x3)) ^^^ (-1))) 28 (Int32.toNatClampNeg x3) 1 → g_X5_lay (d + 1) 2 [(0, aN 25), (1, aN 51), (2, aI x2), (3, aI (x3 + 1))] σ8 Q))))) : g_X5_lay (d + 1) 2 [(0, aN 25), (1, aN 51), (2, aI x2), (3, aI x3)] σ Q := by
  intro p l e s m args below meth c D cy ad base H locs ls C w hl
  obtain ⟨hx, hb, hml, hown, hts, hr, hlk⟩ := id C
  have hl : lv_has ls 5 [(0, .ref (ad 25)), (1, .ref (ad 51)), (2, .int x2), (3, .int x3)] := hl
  refine lv_iload_n hx hb dX5_lay_2 rfl (lv_at hl 3 rfl) ?_
  refine lv_iload_n hx hb dX5_lay_3 rfl (lv_at hl 2 rfl) ?_
  refine lv_icmp_ge (tgt := 31) hx hb dX5_lay_4 (by decide) (fun c1 => ?_) (fun c1 => ?_)
  · have h := h.1 c1
    refine lv_iload_n hx hb dX5_lay_31 rfl (lv_at hl 2 rfl) ?_
    refine lv_iconst (v := 1) hx hb dX5_lay_32 (by decide) ?_
    refine lv_iload_n hx hb dX5_lay_33 rfl (lv_at hl 2 rfl) ?_
    refine lv_ishl hx hb dX5_lay_34 ?_
    refine lv_iconst (v := 1) hx hb dX5_lay_35 (by decide) ?_
    refine lv_isub hx hb dX5_lay_36 ?_
    refine lv_aload_n hx hb dX5_lay_37 rfl (lv_at hl 0 rfl) ?_
    refine tk_get (k := 25) (v := .ref (ad 27)) hx hb hts hown w rfl rfl inlX5 1 (by decide) mw_66 rfl dX5_lay_38 ?_
    refine lv_aload_n hx hb dX5_lay_41 rfl (lv_at hl 0 rfl) ?_
    refine tk_get (k := 25) (v := .ref (ad 28)) hx hb hts hown w rfl rfl inlX5 2 (by decide) mw_67 rfl dX5_lay_42 ?_
    refine tk_cSN C w (as := [aI x2, aI (((1 : Int32) <<< (x2 &&& 31)) - 1), aN 27, aN 28]) (rest := []) mw_494 mw_2 (List.mem_of_getElem? (i := 12) rfl) mw_493 hd_X7_heaviest (by decide) hl.1 (Nat.le_of_ble_eq_true rfl) rfl dX5_lay_45 h (fun r2 σ3 H locs hq w => ?_)
    obtain ⟨y4, rfl, h⟩ := hq
    refine W.eq (g2 := F0 m 48 ls [.int y4]) rfl ?_
    refine lv_istore_n (lv' := [(3, .int y4), (0, .ref (ad 25)), (1, .ref (ad 51)), (2, .int x2)]) hx hb dX5_lay_48 rfl hl (by decide) rfl (fun ls hl => ?_)
    refine lv_iload_n hx hb dX5_lay_49 rfl (lv_at hl 0 rfl) ?_
    refine lv_istore (lv' := [(4, .int y4), (3, .int y4), (0, .ref (ad 25)), (1, .ref (ad 51)), (2, .int x2)]) hx hb dX5_lay_50 hl (by decide) rfl (fun ls hl => ?_)
    exact h _ _ _ _ _ _ _ _ _ _ _ _ _ _ _ _ C w (lv_sub hl [2, 3, 4, 0] rfl)
  · have h := h.2 c1
    refine lv_aload_n hx hb dX5_lay_7 rfl (lv_at hl 0 rfl) ?_
    refine tk_get (k := 25) (v := .ref (ad 27)) hx hb hts hown w rfl rfl inlX5 1 (by decide) mw_66 rfl dX5_lay_8 ?_
    refine lv_iload_n hx hb dX5_lay_11 rfl (lv_at hl 3 rfl) ?_
    refine lv_aload_n hx hb dX5_lay_12 rfl (lv_at hl 1 rfl) ?_
    refine lv_iload_n hx hb dX5_lay_13 rfl (lv_at hl 3 rfl) ?_
    obtain ⟨hi5, h⟩ := h
    refine tk_iald (k := 51) hx hb w rfl hi5 dX5_lay_14 ?_
    refine lv_iconst (v := (-1)) hx hb dX5_lay_15 (by decide) ?_
    refine lv_ixor hx hb dX5_lay_16 ?_
    obtain ⟨hi6, h⟩ := h
    refine tk_iast (k := 27) hx hb w rfl hi6 dX5_lay_17 (fun H locs w => ?_)
    refine lv_aload_n hx hb dX5_lay_18 rfl (lv_at hl 0 rfl) ?_
    refine tk_get (k := 25) (v := .ref (ad 28)) hx hb hts hown w rfl rfl inlX5 2 (by decide) mw_67 rfl dX5_lay_19 ?_
    refine lv_iload_n hx hb dX5_lay_22 rfl (lv_at hl 3 rfl) ?_
    refine lv_iconst (v := 1) hx hb dX5_lay_23 (by decide) ?_
    obtain ⟨hi7, h⟩ := h
    refine tk_iast (k := 28) hx hb w rfl hi7 dX5_lay_24 (fun H locs w => ?_)
    generalize e_σ8 : tk_up (tk_up σ 27 (Int32.toNatClampNeg x3) ((σ.1 51 (Int32.toNatClampNeg x3)) ^^^ (-1))) 28 (Int32.toNatClampNeg x3) 1 = σ8 at w
    have h := h σ8 e_σ8.symm
    refine lv_iinc (v := x3 + 1) (lv' := [(3, .int (x3 + 1)), (0, .ref (ad 25)), (1, .ref (ad 51)), (2, .int x2)]) hx hb dX5_lay_25 hl (k := 3) rfl rfl (by decide) rfl (fun ls hl => ?_)
    refine lv_goto (tgt := 2) hx hb dX5_lay_28 (by decide) ?_
    exact h _ _ _ _ _ _ _ _ _ _ _ _ _ _ _ _ C w (lv_sub hl [1, 2, 3, 0] rfl)
set_option maxHeartbeats 4000000 in
set_option maxRecDepth 100000 in
theorem b_X5_lay_0 (d : Nat) (x2 : Int32) (σ : tk_S) (Q : tk_S → Prop) (h : g_X5_lay (d + 1) 2 [(0, aN 25), (1, aN 51), (2, aI x2), (3, aI 0)] σ Q) : g_X5_lay (d + 1) 0 [(0, aN 25), (1, aN 51), (2, aI x2)] σ Q := by
  intro p l e s m args below meth c D cy ad base H locs ls C w hl
  obtain ⟨hx, hb, hml, hown, hts, hr, hlk⟩ := id C
  have hl : lv_has ls 5 [(0, .ref (ad 25)), (1, .ref (ad 51)), (2, .int x2)] := hl
  refine lv_iconst (v := 0) hx hb dX5_lay_0 (by decide) ?_
  refine lv_istore_n (lv' := [(3, .int 0), (0, .ref (ad 25)), (1, .ref (ad 51)), (2, .int x2)]) hx hb dX5_lay_1 rfl hl (by decide) rfl (fun ls hl => ?_)
  exact h _ _ _ _ _ _ _ _ _ _ _ _ _ _ _ _ C w (lv_sub hl [1, 2, 3, 0] rfl)
theorem e_X5_lay (d : Nat) (x2 : Int32) {σ : tk_S} {Q : tk_S → Prop} (h : g_X5_lay d 0 [(0, aN 25), (1, aN 51), (2, aI x2)] σ Q) : p_X5_lay d [aN 25, aN 51, aI x2] σ Q := tk_entry (by decide) rfl (fun _ => Nat.le_of_ble_eq_true rfl) (fun _ => rfl) h
abbrev g_X5_layOn (d pc : Nat) (vals : List (Nat × tk_V)) (σ : tk_S) (Q : Int32 → tk_S → Prop) : Prop := tk_G RX5 cX5_layOn 5 (some .boolean) d pc vals σ (tk_i Q)
set_option maxHeartbeats 4000000 in
set_option maxRecDepth 100000 in
theorem b_X5_layOn_3 (d : Nat) (x1 : Int32) (x3 : Int32) (x4 : Int32) (σ : tk_S) (Q : Int32 → tk_S → Prop) (h : (x1 ≤ x4 → p_X5_place d [aN 25, aI 0, aI 0, aI x1, aN 51, aI x3] σ (fun y4 σ3 => narrow .boolean (.int y4) = .int y4 ∧ Q y4 σ3)) ∧ (¬ x1 ≤ x4 → vp_in x4 12 ∧ (g_X5_layOn (d + 1) 3 [(0, aN 25), (1, aI x1), (2, aN 51), (3, aI x3), (4, aI (x4 + 1))] (tk_up σ 26 (Int32.toNatClampNeg x4) 0) Q))) : g_X5_layOn (d + 1) 3 [(0, aN 25), (1, aI x1), (2, aN 51), (3, aI x3), (4, aI x4)] σ Q := by
  intro p l e s m args below meth c D cy ad base H locs ls C w hl
  obtain ⟨hx, hb, hml, hown, hts, hr, hlk⟩ := id C
  have hl : lv_has ls 5 [(0, .ref (ad 25)), (1, .int x1), (2, .ref (ad 51)), (3, .int x3), (4, .int x4)] := hl
  refine lv_iload hx hb dX5_layOn_3 (lv_at hl 4 rfl) ?_
  refine lv_iload_n hx hb dX5_layOn_5 rfl (lv_at hl 1 rfl) ?_
  refine lv_icmp_ge (tgt := 23) hx hb dX5_layOn_6 (by decide) (fun c1 => ?_) (fun c1 => ?_)
  · have h := h.1 c1
    refine lv_aload_n hx hb dX5_layOn_23 rfl (lv_at hl 0 rfl) ?_
    refine lv_iconst (v := 0) hx hb dX5_layOn_24 (by decide) ?_
    refine lv_iconst (v := 0) hx hb dX5_layOn_25 (by decide) ?_
    refine lv_iload_n hx hb dX5_layOn_26 rfl (lv_at hl 1 rfl) ?_
    refine lv_aload_n hx hb dX5_layOn_27 rfl (lv_at hl 2 rfl) ?_
    refine lv_iload_n hx hb dX5_layOn_28 rfl (lv_at hl 3 rfl) ?_
    refine tk_cV C w (k := 25) rfl rfl (as := [aI 0, aI 0, aI x1, aN 51, aI x3]) (rest := []) mw_539 mw_35 mw_536 mw_537 mw_538 hd_X5_place (by decide) hl.1 (Nat.le_of_ble_eq_true rfl) rfl dX5_layOn_29 h (fun r2 σ3 H locs hq w => ?_)
    obtain ⟨y4, rfl, h⟩ := hq
    refine W.eq (g2 := F0 m 32 ls [.int y4]) rfl ?_
    exact tk_retz C w dX5_layOn_32 h.1 h.2
  · have h := h.2 c1
    refine lv_aload_n hx hb dX5_layOn_9 rfl (lv_at hl 0 rfl) ?_
    refine tk_get (k := 25) (v := .ref (ad 26)) hx hb hts hown w rfl rfl inlX5 0 (by decide) mw_65 rfl dX5_layOn_10 ?_
    refine lv_iload hx hb dX5_layOn_13 (lv_at hl 4 rfl) ?_
    refine lv_iconst (v := 0) hx hb dX5_layOn_15 (by decide) ?_
    obtain ⟨hi5, h⟩ := h
    refine tk_iast (k := 26) hx hb w rfl hi5 dX5_layOn_16 (fun H locs w => ?_)
    refine lv_iinc (v := x4 + 1) (lv' := [(4, .int (x4 + 1)), (0, .ref (ad 25)), (1, .int x1), (2, .ref (ad 51)), (3, .int x3)]) hx hb dX5_layOn_17 hl (k := 4) rfl rfl (by decide) rfl (fun ls hl => ?_)
    refine lv_goto (tgt := 3) hx hb dX5_layOn_20 (by decide) ?_
    exact h _ _ _ _ _ _ _ _ _ _ _ _ _ _ _ _ C w (lv_sub hl [1, 2, 3, 4, 0] rfl)
set_option maxHeartbeats 4000000 in
set_option maxRecDepth 100000 in
theorem b_X5_layOn_0 (d : Nat) (x1 : Int32) (x3 : Int32) (σ : tk_S) (Q : Int32 → tk_S → Prop) (h : g_X5_layOn (d + 1) 3 [(0, aN 25), (1, aI x1), (2, aN 51), (3, aI x3), (4, aI 0)] σ Q) : g_X5_layOn (d + 1) 0 [(0, aN 25), (1, aI x1), (2, aN 51), (3, aI x3)] σ Q := by
  intro p l e s m args below meth c D cy ad base H locs ls C w hl
  obtain ⟨hx, hb, hml, hown, hts, hr, hlk⟩ := id C
  have hl : lv_has ls 5 [(0, .ref (ad 25)), (1, .int x1), (2, .ref (ad 51)), (3, .int x3)] := hl
  refine lv_iconst (v := 0) hx hb dX5_layOn_0 (by decide) ?_
  refine lv_istore (lv' := [(4, .int 0), (0, .ref (ad 25)), (1, .int x1), (2, .ref (ad 51)), (3, .int x3)]) hx hb dX5_layOn_1 hl (by decide) rfl (fun ls hl => ?_)
  exact h _ _ _ _ _ _ _ _ _ _ _ _ _ _ _ _ C w (lv_sub hl [1, 2, 3, 4, 0] rfl)
theorem e_X5_layOn (d : Nat) (x1 : Int32) (x3 : Int32) {σ : tk_S} {Q : Int32 → tk_S → Prop} (h : g_X5_layOn d 0 [(0, aN 25), (1, aI x1), (2, aN 51), (3, aI x3)] σ Q) : p_X5_layOn d [aN 25, aI x1, aN 51, aI x3] σ Q := tk_entry (by decide) rfl (fun _ => Nat.le_of_ble_eq_true rfl) (fun _ => rfl) h
abbrev g_X5_place (d pc : Nat) (vals : List (Nat × tk_V)) (σ : tk_S) (Q : Int32 → tk_S → Prop) : Prop := tk_G RX5 cX5_place 8 (some .boolean) d pc vals σ (tk_i Q)
set_option maxHeartbeats 4000000 in
set_option maxRecDepth 100000 in
theorem b_X5_place_11 (d : Nat) (x1 : Int32) (x2 : Int32) (x3 : Int32) (x5 : Int32) (x6 : Int32) (σ : tk_S) (Q : Int32 → tk_S → Prop) (h : (x2 < x6 → Q 0 σ) ∧ (¬ x2 < x6 → (x3 ≤ x6 → Q 0 σ) ∧ (¬ x3 ≤ x6 → vp_in x6 12 ∧ (vp_in x1 12 ∧ ((((σ.1 26 (Int32.toNatClampNeg x6)) &&& (σ.1 51 (Int32.toNatClampNeg x1))) = 0 → vp_in x6 12 ∧ (vp_in x6 12 ∧ (vp_in x1 12 ∧ (∀ σ9 : tk_S, σ9 = tk_up (tk_up σ 26 (Int32.toNatClampNeg x6) ((σ.1 26 (Int32.toNatClampNeg x6)) ||| ((1 : Int32) <<< (x1 &&& 31)))) 29 (Int32.toNatClampNeg x1) x6 → p_X5_place d [aN 25, aI (x1 + 1), aI (if x2 < (x6 + 1) then (x6 + 1) else x2), aI x3, aN 51, aI x5] σ9 (fun y12 σ11 => (y12 = 0 → vp_in x6 12 ∧ (vp_in x6 12 ∧ (vp_in x1 12 ∧ ((¬ (((tk_up σ11 26 (Int32.toNatClampNeg x6) ((σ11.1 26 (Int32.toNatClampNeg x6)) &&& (((1 : Int32) <<< (x1 &&& 31)) ^^^ (-1)))).1 51 (Int32.toNatClampNeg x1)) >>> (x1 &&& 31)) = 0 → g_X5_place (d + 1) 11 [(0, aN 25), (1, aI x1), (2, aI x2), (3, aI x3), (4, aN 51), (5, aI x5), (6, aI (x6 + 1))] (tk_up σ11 26 (Int32.toNatClampNeg x6) ((σ11.1 26 (Int32.toNatClampNeg x6)) &&& (((1 : Int32) <<< (x1 &&& 31)) ^^^ (-1)))) Q) ∧ ((((tk_up σ11 26 (Int32.toNatClampNeg x6) ((σ11.1 26 (Int32.toNatClampNeg x6)) &&& (((1 : Int32) <<< (x1 &&& 31)) ^^^ (-1)))).1 51 (Int32.toNatClampNeg x1)) >>> (x1 &&& 31)) = 0 → Q 0 (tk_up σ11 26 (Int32.toNatClampNeg x6) ((σ11.1 26 (Int32.toNatClampNeg x6)) &&& (((1 : Int32) <<< (x1 &&& 31)) ^^^ (-1))))))))) ∧ (¬ y12 = 0 → Q 1 σ11)))))) ∧ (¬ ((σ.1 26 (Int32.toNatClampNeg x6)) &&& (σ.1 51 (Int32.toNatClampNeg x1))) = 0 → g_X5_place (d + 1) 11 [(0, aN 25), (1, aI x1), (2, aI x2), (3, aI x3), (4, aN 51), (5, aI x5), (6, aI (x6 + 1))] σ Q)))))) : g_X5_place (d + 1) 11 [(0, aN 25), (1, aI x1), (2, aI x2), (3, aI x3), (4, aN 51), (5, aI x5), (6, aI x6)] σ Q := by
  intro p l e s m args below meth c D cy ad base H locs ls C w hl
  obtain ⟨hx, hb, hml, hown, hts, hr, hlk⟩ := id C
  have hl : lv_has ls 8 [(0, .ref (ad 25)), (1, .int x1), (2, .int x2), (3, .int x3), (4, .ref (ad 51)), (5, .int x5), (6, .int x6)] := hl
  refine lv_iload hx hb dX5_place_11 (lv_at hl 6 rfl) ?_
  refine lv_iload_n hx hb dX5_place_13 rfl (lv_at hl 2 rfl) ?_
  refine lv_icmp_gt (tgt := 131) hx hb dX5_place_14 (by decide) (fun c1 => ?_) (fun c1 => ?_)
  · have h := h.1 c1
    refine lv_iconst (v := 0) hx hb dX5_place_131 (by decide) ?_
    exact tk_retz C w dX5_place_132 rfl h
  · have h := h.2 c1
    refine lv_iload hx hb dX5_place_17 (lv_at hl 6 rfl) ?_
    refine lv_iload_n hx hb dX5_place_19 rfl (lv_at hl 3 rfl) ?_
    refine lv_icmp_ge (tgt := 131) hx hb dX5_place_20 (by decide) (fun c2 => ?_) (fun c2 => ?_)
    · have h := h.1 c2
      refine lv_iconst (v := 0) hx hb dX5_place_131 (by decide) ?_
      exact tk_retz C w dX5_place_132 rfl h
    · have h := h.2 c2
      refine lv_aload_n hx hb dX5_place_23 rfl (lv_at hl 0 rfl) ?_
      refine tk_get (k := 25) (v := .ref (ad 26)) hx hb hts hown w rfl rfl inlX5 0 (by decide) mw_65 rfl dX5_place_24 ?_
      refine lv_iload hx hb dX5_place_27 (lv_at hl 6 rfl) ?_
      obtain ⟨hi3, h⟩ := h
      refine tk_iald (k := 26) hx hb w rfl hi3 dX5_place_29 ?_
      refine lv_aload hx hb dX5_place_30 (lv_at hl 4 rfl) ?_
      refine lv_iload_n hx hb dX5_place_32 rfl (lv_at hl 1 rfl) ?_
      obtain ⟨hi4, h⟩ := h
      refine tk_iald (k := 51) hx hb w rfl hi4 dX5_place_33 ?_
      refine lv_iand hx hb dX5_place_34 ?_
      refine lv_if_eq (tgt := 41) hx hb dX5_place_35 (by decide) (fun c5 => ?_) (fun c5 => ?_)
      · have h := h.1 c5
        refine lv_aload_n hx hb dX5_place_41 rfl (lv_at hl 0 rfl) ?_
        refine tk_get (k := 25) (v := .ref (ad 26)) hx hb hts hown w rfl rfl inlX5 0 (by decide) mw_65 rfl dX5_place_42 ?_
        refine lv_iload hx hb dX5_place_45 (lv_at hl 6 rfl) ?_
        refine lv_dup2_11 hx hb dX5_place_47 rfl rfl ?_
        obtain ⟨hi6, h⟩ := h
        refine tk_iald (k := 26) hx hb w rfl hi6 dX5_place_48 ?_
        refine lv_iconst (v := 1) hx hb dX5_place_49 (by decide) ?_
        refine lv_iload_n hx hb dX5_place_50 rfl (lv_at hl 1 rfl) ?_
        refine lv_ishl hx hb dX5_place_51 ?_
        refine lv_ior hx hb dX5_place_52 ?_
        obtain ⟨hi7, h⟩ := h
        refine tk_iast (k := 26) hx hb w rfl hi7 dX5_place_53 (fun H locs w => ?_)
        refine lv_aload_n hx hb dX5_place_54 rfl (lv_at hl 0 rfl) ?_
        refine tk_get (k := 25) (v := .ref (ad 29)) hx hb hts hown w rfl rfl inlX5 3 (by decide) mw_68 rfl dX5_place_55 ?_
        refine lv_iload_n hx hb dX5_place_58 rfl (lv_at hl 1 rfl) ?_
        refine lv_iload hx hb dX5_place_59 (lv_at hl 6 rfl) ?_
        obtain ⟨hi8, h⟩ := h
        refine tk_iast (k := 29) hx hb w rfl hi8 dX5_place_61 (fun H locs w => ?_)
        generalize e_σ9 : tk_up (tk_up σ 26 (Int32.toNatClampNeg x6) ((σ.1 26 (Int32.toNatClampNeg x6)) ||| ((1 : Int32) <<< (x1 &&& 31)))) 29 (Int32.toNatClampNeg x1) x6 = σ9 at w
        have h := h σ9 e_σ9.symm
        refine lv_aload_n hx hb dX5_place_62 rfl (lv_at hl 0 rfl) ?_
        refine lv_iload_n hx hb dX5_place_63 rfl (lv_at hl 1 rfl) ?_
        refine lv_iconst (v := 1) hx hb dX5_place_64 (by decide) ?_
        refine lv_iadd hx hb dX5_place_65 ?_
        refine lv_iload_n hx hb dX5_place_66 rfl (lv_at hl 2 rfl) ?_
        refine lv_iload hx hb dX5_place_67 (lv_at hl 6 rfl) ?_
        refine lv_iconst (v := 1) hx hb dX5_place_69 (by decide) ?_
        refine lv_iadd hx hb dX5_place_70 ?_
        refine va_mmax hx hb (by rw [hml]; exact hl.1.symm) hown (hts _ mw_540) (hts _ mw_190) (hts _ mw_187) (hts _ mw_191) (Nat.succ_le_succ (Nat.zero_le _)) (Nat.le_trans (m := 64) (Nat.le_of_ble_eq_true rfl) (by show 64 ≤ 64 * (d + 1); omega)) (Nat.le_refl _) (Nat.le_refl _) dX5_place_71 ?_
        refine lv_iload_n hx hb dX5_place_74 rfl (lv_at hl 3 rfl) ?_
        refine lv_aload hx hb dX5_place_75 (lv_at hl 4 rfl) ?_
        refine lv_iload hx hb dX5_place_77 (lv_at hl 5 rfl) ?_
        refine tk_cV C w (k := 25) rfl rfl (as := [aI (x1 + 1), aI (if x2 < (x6 + 1) then (x6 + 1) else x2), aI x3, aN 51, aI x5]) (rest := []) mw_539 mw_35 mw_536 mw_537 mw_538 hd_X5_place (by decide) hl.1 (Nat.le_of_ble_eq_true rfl) rfl dX5_place_79 h (fun r10 σ11 H locs hq w => ?_)
        obtain ⟨y12, rfl, h⟩ := hq
        refine W.eq (g2 := F0 m 82 ls [.int y12]) rfl ?_
        refine lv_if_eq (tgt := 87) hx hb dX5_place_82 (by decide) (fun c13 => ?_) (fun c13 => ?_)
        · have h := h.1 c13
          refine lv_aload_n hx hb dX5_place_87 rfl (lv_at hl 0 rfl) ?_
          refine tk_get (k := 25) (v := .ref (ad 26)) hx hb hts hown w rfl rfl inlX5 0 (by decide) mw_65 rfl dX5_place_88 ?_
          refine lv_iload hx hb dX5_place_91 (lv_at hl 6 rfl) ?_
          refine lv_dup2_11 hx hb dX5_place_93 rfl rfl ?_
          obtain ⟨hi14, h⟩ := h
          refine tk_iald (k := 26) hx hb w rfl hi14 dX5_place_94 ?_
          refine lv_iconst (v := 1) hx hb dX5_place_95 (by decide) ?_
          refine lv_iload_n hx hb dX5_place_96 rfl (lv_at hl 1 rfl) ?_
          refine lv_ishl hx hb dX5_place_97 ?_
          refine lv_iconst (v := (-1)) hx hb dX5_place_98 (by decide) ?_
          refine lv_ixor hx hb dX5_place_99 ?_
          refine lv_iand hx hb dX5_place_100 ?_
          obtain ⟨hi15, h⟩ := h
          refine tk_iast (k := 26) hx hb w rfl hi15 dX5_place_101 (fun H locs w => ?_)
          refine lv_aload hx hb dX5_place_102 (lv_at hl 4 rfl) ?_
          refine lv_iload_n hx hb dX5_place_104 rfl (lv_at hl 1 rfl) ?_
          obtain ⟨hi16, h⟩ := h
          refine tk_iald (k := 51) hx hb w rfl hi16 dX5_place_105 ?_
          refine lv_iload_n hx hb dX5_place_106 rfl (lv_at hl 1 rfl) ?_
          refine lv_ishr hx hb dX5_place_107 ?_
          refine lv_if_ne (tgt := 115) hx hb dX5_place_108 (by decide) (fun c17 => ?_) (fun c17 => ?_)
          · have h := h.1 c17
            refine lv_iconst (v := 0) hx hb dX5_place_115 (by decide) ?_
            refine lv_istore (lv' := [(7, .int 0), (0, .ref (ad 25)), (1, .int x1), (2, .int x2), (3, .int x3), (4, .ref (ad 51)), (5, .int x5), (6, .int x6)]) hx hb dX5_place_116 hl (by decide) rfl (fun ls hl => ?_)
            refine lv_iload hx hb dX5_place_118 (lv_at hl 0 rfl) ?_
            refine lv_if_eq (tgt := 125) hx hb dX5_place_120 (by decide) (fun c18 => ?_) (fun c18 => absurd (by decide) c18)
            refine lv_iinc (v := x6 + 1) (lv' := [(6, .int (x6 + 1)), (7, .int 0), (0, .ref (ad 25)), (1, .int x1), (2, .int x2), (3, .int x3), (4, .ref (ad 51)), (5, .int x5)]) hx hb dX5_place_125 hl (k := 7) rfl rfl (by decide) rfl (fun ls hl => ?_)
            refine lv_goto (tgt := 11) hx hb dX5_place_128 (by decide) ?_
            exact h _ _ _ _ _ _ _ _ _ _ _ _ _ _ _ _ C w (lv_sub hl [2, 3, 4, 5, 6, 7, 0] rfl)
          · have h := h.2 c17
            refine lv_iconst (v := 1) hx hb dX5_place_111 (by decide) ?_
            refine lv_goto (tgt := 116) hx hb dX5_place_112 (by decide) ?_
            refine lv_istore (lv' := [(7, .int 1), (0, .ref (ad 25)), (1, .int x1), (2, .int x2), (3, .int x3), (4, .ref (ad 51)), (5, .int x5), (6, .int x6)]) hx hb dX5_place_116 hl (by decide) rfl (fun ls hl => ?_)
            refine lv_iload hx hb dX5_place_118 (lv_at hl 0 rfl) ?_
            refine lv_if_eq (tgt := 125) hx hb dX5_place_120 (by decide) (fun c19 => absurd c19 (by decide)) (fun c19 => ?_)
            refine lv_iconst (v := 0) hx hb dX5_place_123 (by decide) ?_
            exact tk_retz C w dX5_place_124 rfl h
        · have h := h.2 c13
          refine lv_iconst (v := 1) hx hb dX5_place_85 (by decide) ?_
          exact tk_retz C w dX5_place_86 rfl h
      · have h := h.2 c5
        refine lv_goto (tgt := 125) hx hb dX5_place_38 (by decide) ?_
        refine lv_iinc (v := x6 + 1) (lv' := [(6, .int (x6 + 1)), (0, .ref (ad 25)), (1, .int x1), (2, .int x2), (3, .int x3), (4, .ref (ad 51)), (5, .int x5)]) hx hb dX5_place_125 hl (k := 6) rfl rfl (by decide) rfl (fun ls hl => ?_)
        refine lv_goto (tgt := 11) hx hb dX5_place_128 (by decide) ?_
        exact h _ _ _ _ _ _ _ _ _ _ _ _ _ _ _ _ C w (lv_sub hl [1, 2, 3, 4, 5, 6, 0] rfl)
set_option maxHeartbeats 4000000 in
set_option maxRecDepth 100000 in
theorem b_X5_place_0 (d : Nat) (x1 : Int32) (x2 : Int32) (x3 : Int32) (x5 : Int32) (σ : tk_S) (Q : Int32 → tk_S → Prop) (h : (x1 < x5 → g_X5_place (d + 1) 11 [(0, aN 25), (1, aI x1), (2, aI x2), (3, aI x3), (4, aN 51), (5, aI x5), (6, aI 0)] σ Q) ∧ (¬ x1 < x5 → Q 1 σ)) : g_X5_place (d + 1) 0 [(0, aN 25), (1, aI x1), (2, aI x2), (3, aI x3), (4, aN 51), (5, aI x5)] σ Q := by
  intro p l e s m args below meth c D cy ad base H locs ls C w hl
  obtain ⟨hx, hb, hml, hown, hts, hr, hlk⟩ := id C
  have hl : lv_has ls 8 [(0, .ref (ad 25)), (1, .int x1), (2, .int x2), (3, .int x3), (4, .ref (ad 51)), (5, .int x5)] := hl
  refine lv_iload_n hx hb dX5_place_0 rfl (lv_at hl 1 rfl) ?_
  refine lv_iload hx hb dX5_place_1 (lv_at hl 5 rfl) ?_
  refine lv_icmp_lt (tgt := 8) hx hb dX5_place_3 (by decide) (fun c1 => ?_) (fun c1 => ?_)
  · have h := h.1 c1
    refine lv_iconst (v := 0) hx hb dX5_place_8 (by decide) ?_
    refine lv_istore (lv' := [(6, .int 0), (0, .ref (ad 25)), (1, .int x1), (2, .int x2), (3, .int x3), (4, .ref (ad 51)), (5, .int x5)]) hx hb dX5_place_9 hl (by decide) rfl (fun ls hl => ?_)
    exact h _ _ _ _ _ _ _ _ _ _ _ _ _ _ _ _ C w (lv_sub hl [1, 2, 3, 4, 5, 6, 0] rfl)
  · have h := h.2 c1
    refine lv_iconst (v := 1) hx hb dX5_place_6 (by decide) ?_
    exact tk_retz C w dX5_place_7 rfl h
theorem e_X5_place (d : Nat) (x1 : Int32) (x2 : Int32) (x3 : Int32) (x5 : Int32) {σ : tk_S} {Q : Int32 → tk_S → Prop} (h : g_X5_place d 0 [(0, aN 25), (1, aI x1), (2, aI x2), (3, aI x3), (4, aN 51), (5, aI x5)] σ Q) : p_X5_place d [aN 25, aI x1, aI x2, aI x3, aN 51, aI x5] σ Q := tk_entry (by decide) rfl (fun _ => Nat.le_of_ble_eq_true rfl) (fun _ => rfl) h
