abbrev g_X0_feel (d pc : Nat) (vals : List (Nat × tk_V)) (σ : tk_S) (Q : tk_S → Prop) : Prop := tk_G RX0 cX0_feel 4 none d pc vals σ (tk_v Q)
set_option maxHeartbeats 4000000 in
set_option maxRecDepth 100000 in
theorem b_X0_feel_23 (d : Nat) (x2 : Int32) (x3 : Int32) (σ : tk_S) (Q : tk_S → Prop) (h : (24 ≤ x3 → g_X0_feel (d + 1) 15 [(0, aN 54), (2, aI (x2 + 1))] σ Q) ∧ (¬ 24 ≤ x3 → vp_in x2 24 ∧ (((σ.1 56 (Int32.toNatClampNeg x2)) = 0 → g_X0_feel (d + 1) 15 [(0, aN 54), (2, aI (x2 + 1))] σ Q) ∧ (¬ (σ.1 56 (Int32.toNatClampNeg x2)) = 0 → p_X2_holds d [aN 55, aI x3, aI x2] σ (fun y6 σ5 => (y6 = 0 → g_X0_feel (d + 1) 23 [(0, aN 54), (2, aI x2), (3, aI (x3 + 1))] σ5 Q) ∧ (¬ y6 = 0 → (12 ≤ (σ5.1 54 3) → g_X0_feel (d + 1) 23 [(0, aN 54), (2, aI x2), (3, aI (x3 + 1))] σ5 Q) ∧ (¬ 12 ≤ (σ5.1 54 3) → p_X0_gather d [aN 54, aI x3, aI x2] σ5 (fun σ10 => vp_in (σ10.1 54 3) 12 ∧ (p_X0_describe d [aN 54, aN (59 + 1 + 1 * Int32.toNatClampNeg (σ10.1 54 3))] σ10 (fun σ13 => p_X2_drop d [aN 55, aN 57] σ13 (fun σ15 => g_X0_feel (d + 1) 23 [(0, aN 54), (2, aI x2), (3, aI (x3 + 1))] (tk_up σ15 54 3 ((σ15.1 54 3) + 1)) Q))))))))))) : g_X0_feel (d + 1) 23 [(0, aN 54), (2, aI x2), (3, aI x3)] σ Q := by
  intro p l e s m args below meth c D cy ad base H locs ls C w hl
  obtain ⟨hx, hb, hml, hown, hts, hr, hlk⟩ := id C
  have hl : lv_has ls 4 [(0, .ref (ad 54)), (2, .int x2), (3, .int x3)] := hl
  refine lv_iload_n hx hb dX0_feel_23 rfl (lv_at hl 2 rfl) ?_
  refine lv_bipush (v := 24) hx hb dX0_feel_24 (by decide) ?_
  refine lv_icmp_ge (tgt := 108) hx hb dX0_feel_26 (by decide) (fun c1 => ?_) (fun c1 => ?_)
  · have h := h.1 c1
    refine lv_iinc (v := x2 + 1) (lv' := [(2, .int (x2 + 1)), (0, .ref (ad 54)), (3, .int x3)]) hx hb dX0_feel_108 hl (k := 1) rfl rfl (by decide) rfl (fun ls hl => ?_)
    refine lv_goto (tgt := 15) hx hb dX0_feel_111 (by decide) ?_
    exact h _ _ _ _ _ _ _ _ _ _ _ _ _ _ _ _ C w (lv_sub hl [1, 0] rfl)
  · have h := h.2 c1
    refine lv_aload_n hx hb dX0_feel_29 rfl (lv_at hl 0 rfl) ?_
    refine tk_get (k := 54) (v := .ref (ad 55)) hx hb hts hown w rfl rfl inlX0 0 (by decide) mw_85 rfl dX0_feel_30 ?_
    refine tk_get (k := 55) (v := .ref (ad 56)) hx hb hts hown w rfl rfl inlX2 0 (by decide) mw_684 rfl dX0_feel_33 ?_
    refine lv_iload_n hx hb dX0_feel_36 rfl (lv_at hl 1 rfl) ?_
    obtain ⟨hi2, h⟩ := h
    refine tk_iald (k := 56) hx hb w rfl hi2 dX0_feel_37 ?_
    refine lv_if_eq (tgt := 108) hx hb dX0_feel_38 (by decide) (fun c3 => ?_) (fun c3 => ?_)
    · have h := h.1 c3
      refine lv_iinc (v := x2 + 1) (lv' := [(2, .int (x2 + 1)), (0, .ref (ad 54)), (3, .int x3)]) hx hb dX0_feel_108 hl (k := 1) rfl rfl (by decide) rfl (fun ls hl => ?_)
      refine lv_goto (tgt := 15) hx hb dX0_feel_111 (by decide) ?_
      exact h _ _ _ _ _ _ _ _ _ _ _ _ _ _ _ _ C w (lv_sub hl [1, 0] rfl)
    · have h := h.2 c3
      refine lv_aload_n hx hb dX0_feel_41 rfl (lv_at hl 0 rfl) ?_
      refine tk_get (k := 54) (v := .ref (ad 55)) hx hb hts hown w rfl rfl inlX0 0 (by decide) mw_85 rfl dX0_feel_42 ?_
      refine lv_iload_n hx hb dX0_feel_45 rfl (lv_at hl 2 rfl) ?_
      refine lv_iload_n hx hb dX0_feel_46 rfl (lv_at hl 1 rfl) ?_
      refine tk_cV C w (k := 55) rfl rfl (as := [aI x3, aI x2]) (rest := []) mw_380 mw_23 mw_686 mw_378 mw_379 hd_X2_holds (by decide) hl.1 (Nat.le_of_ble_eq_true rfl) rfl dX0_feel_47 h (fun r4 σ5 H locs hq w => ?_)
      obtain ⟨y6, rfl, h⟩ := hq
      refine W.eq (g2 := F0 m 50 ls [.int y6]) rfl ?_
      refine lv_if_eq (tgt := 102) hx hb dX0_feel_50 (by decide) (fun c7 => ?_) (fun c7 => ?_)
      · have h := h.1 c7
        refine lv_iinc (v := x3 + 1) (lv' := [(3, .int (x3 + 1)), (0, .ref (ad 54)), (2, .int x2)]) hx hb dX0_feel_102 hl (k := 2) rfl rfl (by decide) rfl (fun ls hl => ?_)
        refine lv_goto (tgt := 23) hx hb dX0_feel_105 (by decide) ?_
        exact h _ _ _ _ _ _ _ _ _ _ _ _ _ _ _ _ C w (lv_sub hl [1, 2, 0] rfl)
      · have h := h.2 c7
        refine lv_aload_n hx hb dX0_feel_53 rfl (lv_at hl 0 rfl) ?_
        refine tk_get (k := 54) (v := .int (σ5.1 54 3)) hx hb hts hown w rfl rfl inlX0 3 (by decide) mw_683 rfl dX0_feel_54 ?_
        refine lv_bipush (v := 12) hx hb dX0_feel_57 (by decide) ?_
        refine lv_icmp_ge (tgt := 102) hx hb dX0_feel_59 (by decide) (fun c8 => ?_) (fun c8 => ?_)
        · have h := h.1 c8
          refine lv_iinc (v := x3 + 1) (lv' := [(3, .int (x3 + 1)), (0, .ref (ad 54)), (2, .int x2)]) hx hb dX0_feel_102 hl (k := 2) rfl rfl (by decide) rfl (fun ls hl => ?_)
          refine lv_goto (tgt := 23) hx hb dX0_feel_105 (by decide) ?_
          exact h _ _ _ _ _ _ _ _ _ _ _ _ _ _ _ _ C w (lv_sub hl [1, 2, 0] rfl)
        · have h := h.2 c8
          refine lv_aload_n hx hb dX0_feel_62 rfl (lv_at hl 0 rfl) ?_
          refine lv_iload_n hx hb dX0_feel_63 rfl (lv_at hl 2 rfl) ?_
          refine lv_iload_n hx hb dX0_feel_64 rfl (lv_at hl 1 rfl) ?_
          refine tk_cV C w (k := 54) rfl rfl (as := [aI x3, aI x2]) (rest := []) mw_690 mw_45 mw_687 mw_688 mw_689 hd_X0_gather (by decide) hl.1 (Nat.le_of_ble_eq_true rfl) rfl dX0_feel_65 h (fun r9 σ10 H locs hq w => ?_)
          obtain ⟨rfl, h⟩ := hq
          refine W.eq (g2 := F0 m 68 ls []) rfl ?_
          refine lv_aload_n hx hb dX0_feel_68 rfl (lv_at hl 0 rfl) ?_
          refine lv_aload_n hx hb dX0_feel_69 rfl (lv_at hl 0 rfl) ?_
          refine tk_get (k := 54) (v := .ref (ad 59)) hx hb hts hown w rfl rfl inlX0 2 (by decide) mw_88 rfl dX0_feel_70 ?_
          refine lv_aload_n hx hb dX0_feel_73 rfl (lv_at hl 0 rfl) ?_
          refine tk_get (k := 54) (v := .int (σ10.1 54 3)) hx hb hts hown w rfl rfl inlX0 3 (by decide) mw_683 rfl dX0_feel_74 ?_
          obtain ⟨hi11, h⟩ := h
          refine tk_aald (k := 59) (t := 1) (ty := .array .int) hx hb w rfl (by decide) rfl rfl hi11 dX0_feel_77 ?_
          refine tk_cV C w (k := 54) rfl rfl (as := [aN (59 + 1 + 1 * Int32.toNatClampNeg (σ10.1 54 3))]) (rest := []) mw_702 mw_45 mw_699 mw_700 mw_701 hd_X0_describe (by decide) hl.1 (Nat.le_of_ble_eq_true rfl) rfl dX0_feel_78 h (fun r12 σ13 H locs hq w => ?_)
          obtain ⟨rfl, h⟩ := hq
          refine W.eq (g2 := F0 m 81 ls []) rfl ?_
          refine lv_aload_n hx hb dX0_feel_81 rfl (lv_at hl 0 rfl) ?_
          refine tk_get (k := 54) (v := .ref (ad 55)) hx hb hts hown w rfl rfl inlX0 0 (by decide) mw_85 rfl dX0_feel_82 ?_
          refine lv_aload_n hx hb dX0_feel_85 rfl (lv_at hl 0 rfl) ?_
          refine tk_get (k := 54) (v := .ref (ad 57)) hx hb hts hown w rfl rfl inlX0 1 (by decide) mw_86 rfl dX0_feel_86 ?_
          refine tk_cV C w (k := 55) rfl rfl (as := [aN 57]) (rest := []) mw_716 mw_23 mw_713 mw_714 mw_715 hd_X2_drop (by decide) hl.1 (Nat.le_of_ble_eq_true rfl) rfl dX0_feel_89 h (fun r14 σ15 H locs hq w => ?_)
          obtain ⟨rfl, h⟩ := hq
          refine W.eq (g2 := F0 m 92 ls []) rfl ?_
          refine lv_aload_n hx hb dX0_feel_92 rfl (lv_at hl 0 rfl) ?_
          refine lv_dup hx hb dX0_feel_93 rfl ?_
          refine tk_get (k := 54) (v := .int (σ15.1 54 3)) hx hb hts hown w rfl rfl inlX0 3 (by decide) mw_683 rfl dX0_feel_94 ?_
          refine lv_iconst (v := 1) hx hb dX0_feel_97 (by decide) ?_
          refine lv_iadd hx hb dX0_feel_98 ?_
          refine tk_puti (k := 54) (ty := .int) hx hb hts hown w rfl rfl inlX0 tyX0 tyX0_ok nmX0 3 (by decide) mw_683 rfl rfl (by decide +kernel) rfl rfl dX0_feel_99 (fun H locs w => ?_)
          refine lv_iinc (v := x3 + 1) (lv' := [(3, .int (x3 + 1)), (0, .ref (ad 54)), (2, .int x2)]) hx hb dX0_feel_102 hl (k := 2) rfl rfl (by decide) rfl (fun ls hl => ?_)
          refine lv_goto (tgt := 23) hx hb dX0_feel_105 (by decide) ?_
          exact h _ _ _ _ _ _ _ _ _ _ _ _ _ _ _ _ C w (lv_sub hl [1, 2, 0] rfl)
set_option maxHeartbeats 4000000 in
set_option maxRecDepth 100000 in
theorem b_X0_feel_15 (d : Nat) (x2 : Int32) (σ : tk_S) (Q : tk_S → Prop) (h : (24 ≤ x2 → Q σ) ∧ (¬ 24 ≤ x2 → g_X0_feel (d + 1) 23 [(0, aN 54), (2, aI x2), (3, aI 0)] σ Q)) : g_X0_feel (d + 1) 15 [(0, aN 54), (2, aI x2)] σ Q := by
  intro p l e s m args below meth c D cy ad base H locs ls C w hl
  obtain ⟨hx, hb, hml, hown, hts, hr, hlk⟩ := id C
  have hl : lv_has ls 4 [(0, .ref (ad 54)), (2, .int x2)] := hl
  refine lv_iload_n hx hb dX0_feel_15 rfl (lv_at hl 1 rfl) ?_
  refine lv_bipush (v := 24) hx hb dX0_feel_16 (by decide) ?_
  refine lv_icmp_ge (tgt := 114) hx hb dX0_feel_18 (by decide) (fun c1 => ?_) (fun c1 => ?_)
  · have h := h.1 c1
    exact tk_retv C w dX0_feel_114 h
  · have h := h.2 c1
    refine lv_iconst (v := 0) hx hb dX0_feel_21 (by decide) ?_
    refine lv_istore_n (lv' := [(3, .int 0), (0, .ref (ad 54)), (2, .int x2)]) hx hb dX0_feel_22 rfl hl (by decide) rfl (fun ls hl => ?_)
    exact h _ _ _ _ _ _ _ _ _ _ _ _ _ _ _ _ C w (lv_sub hl [1, 2, 0] rfl)
set_option maxHeartbeats 4000000 in
set_option maxRecDepth 100000 in
theorem b_X0_feel_0 (d : Nat)  (σ : tk_S) (Q : tk_S → Prop) (h : p_X2_copy d [aN 55, aN 52] σ (fun σ2 => g_X0_feel (d + 1) 15 [(0, aN 54), (2, aI 0)] (tk_up σ2 54 3 0) Q)) : g_X0_feel (d + 1) 0 [(0, aN 54), (1, aN 52)] σ Q := by
  intro p l e s m args below meth c D cy ad base H locs ls C w hl
  obtain ⟨hx, hb, hml, hown, hts, hr, hlk⟩ := id C
  have hl : lv_has ls 4 [(0, .ref (ad 54)), (1, .ref (ad 52))] := hl
  refine lv_aload_n hx hb dX0_feel_0 rfl (lv_at hl 0 rfl) ?_
  refine tk_get (k := 54) (v := .ref (ad 55)) hx hb hts hown w rfl rfl inlX0 0 (by decide) mw_85 rfl dX0_feel_1 ?_
  refine lv_aload_n hx hb dX0_feel_4 rfl (lv_at hl 1 rfl) ?_
  refine tk_cV C w (k := 55) rfl rfl (as := [aN 52]) (rest := []) mw_213 mw_23 mw_685 mw_211 mw_212 hd_X2_copy (by decide) hl.1 (Nat.le_of_ble_eq_true rfl) rfl dX0_feel_5 h (fun r1 σ2 H locs hq w => ?_)
  obtain ⟨rfl, h⟩ := hq
  refine W.eq (g2 := F0 m 8 ls []) rfl ?_
  refine lv_aload_n hx hb dX0_feel_8 rfl (lv_at hl 0 rfl) ?_
  refine lv_iconst (v := 0) hx hb dX0_feel_9 (by decide) ?_
  refine tk_puti (k := 54) (ty := .int) hx hb hts hown w rfl rfl inlX0 tyX0 tyX0_ok nmX0 3 (by decide) mw_683 rfl rfl (by decide +kernel) rfl rfl dX0_feel_10 (fun H locs w => ?_)
  refine lv_iconst (v := 0) hx hb dX0_feel_13 (by decide) ?_
  refine lv_istore_n (lv' := [(2, .int 0), (0, .ref (ad 54)), (1, .ref (ad 52))]) hx hb dX0_feel_14 rfl hl (by decide) rfl (fun ls hl => ?_)
  exact h _ _ _ _ _ _ _ _ _ _ _ _ _ _ _ _ C w (lv_sub hl [1, 0] rfl)
theorem e_X0_feel (d : Nat)  {σ : tk_S} {Q : tk_S → Prop} (h : g_X0_feel d 0 [(0, aN 54), (1, aN 52)] σ Q) : p_X0_feel d [aN 54, aN 52] σ Q := tk_entry (by decide) rfl (fun _ => Nat.le_of_ble_eq_true rfl) (fun _ => rfl) h
abbrev g_X0_gather (d pc : Nat) (vals : List (Nat × tk_V)) (σ : tk_S) (Q : tk_S → Prop) : Prop := tk_G RX0 cX0_gather 6 none d pc vals σ (tk_v Q)
set_option maxHeartbeats 4000000 in
set_option maxRecDepth 100000 in
theorem b_X0_gather_24 (d : Nat) (x3 : Int32) (x4 : Int32) (x5 : Int32) (σ : tk_S) (Q : tk_S → Prop) (h : (576 ≤ x5 → Q σ) ∧ (¬ 576 ≤ x5 → (x4 ≤ x3 → Q σ) ∧ (¬ x4 ≤ x3 → p_X2_swell d [aN 57] σ (fun σ4 => p_X2_keepOnly d [aN 57, aN 55] σ4 (fun σ6 => p_X2_size d [aN 57] σ6 (fun y9 σ8 => g_X0_gather (d + 1) 24 [(0, aN 54), (3, aI x4), (4, aI y9), (5, aI (x5 + 1))] σ8 Q)))))) : g_X0_gather (d + 1) 24 [(0, aN 54), (3, aI x3), (4, aI x4), (5, aI x5)] σ Q := by
  intro p l e s m args below meth c D cy ad base H locs ls C w hl
  obtain ⟨hx, hb, hml, hown, hts, hr, hlk⟩ := id C
  have hl : lv_has ls 6 [(0, .ref (ad 54)), (3, .int x3), (4, .int x4), (5, .int x5)] := hl
  refine lv_iload hx hb dX0_gather_24 (lv_at hl 3 rfl) ?_
  refine lv_sipush (v := 576) hx hb dX0_gather_26 (by decide) ?_
  refine lv_icmp_ge (tgt := 74) hx hb dX0_gather_29 (by decide) (fun c1 => ?_) (fun c1 => ?_)
  · have h := h.1 c1
    exact tk_retv C w dX0_gather_74 h
  · have h := h.2 c1
    refine lv_iload hx hb dX0_gather_32 (lv_at hl 2 rfl) ?_
    refine lv_iload_n hx hb dX0_gather_34 rfl (lv_at hl 1 rfl) ?_
    refine lv_icmp_le (tgt := 74) hx hb dX0_gather_35 (by decide) (fun c2 => ?_) (fun c2 => ?_)
    · have h := h.1 c2
      exact tk_retv C w dX0_gather_74 h
    · have h := h.2 c2
      refine lv_aload_n hx hb dX0_gather_38 rfl (lv_at hl 0 rfl) ?_
      refine tk_get (k := 54) (v := .ref (ad 57)) hx hb hts hown w rfl rfl inlX0 1 (by decide) mw_86 rfl dX0_gather_39 ?_
      refine tk_cV C w (k := 57) rfl rfl (as := []) (rest := []) mw_224 mw_23 mw_693 mw_222 mw_223 hd_X2_swell (by decide) hl.1 (Nat.le_of_ble_eq_true rfl) rfl dX0_gather_42 h (fun r3 σ4 H locs hq w => ?_)
      obtain ⟨rfl, h⟩ := hq
      refine W.eq (g2 := F0 m 45 ls []) rfl ?_
      refine lv_aload_n hx hb dX0_gather_45 rfl (lv_at hl 0 rfl) ?_
      refine tk_get (k := 54) (v := .ref (ad 57)) hx hb hts hown w rfl rfl inlX0 1 (by decide) mw_86 rfl dX0_gather_46 ?_
      refine lv_aload_n hx hb dX0_gather_49 rfl (lv_at hl 0 rfl) ?_
      refine tk_get (k := 54) (v := .ref (ad 55)) hx hb hts hown w rfl rfl inlX0 0 (by decide) mw_85 rfl dX0_gather_50 ?_
      refine tk_cV C w (k := 57) rfl rfl (as := [aN 55]) (rest := []) mw_697 mw_23 mw_694 mw_695 mw_696 hd_X2_keepOnly (by decide) hl.1 (Nat.le_of_ble_eq_true rfl) rfl dX0_gather_53 h (fun r5 σ6 H locs hq w => ?_)
      obtain ⟨rfl, h⟩ := hq
      refine W.eq (g2 := F0 m 56 ls []) rfl ?_
      refine lv_iload hx hb dX0_gather_56 (lv_at hl 2 rfl) ?_
      refine lv_istore_n (lv' := [(3, .int x4), (0, .ref (ad 54)), (4, .int x4), (5, .int x5)]) hx hb dX0_gather_58 rfl hl (by decide) rfl (fun ls hl => ?_)
      refine lv_aload_n hx hb dX0_gather_59 rfl (lv_at hl 1 rfl) ?_
      refine tk_get (k := 54) (v := .ref (ad 57)) hx hb hts hown w rfl rfl inlX0 1 (by decide) mw_86 rfl dX0_gather_60 ?_
      refine tk_cV C w (k := 57) rfl rfl (as := []) (rest := []) mw_357 mw_23 mw_698 mw_355 mw_356 hd_X2_size (by decide) hl.1 (Nat.le_of_ble_eq_true rfl) rfl dX0_gather_63 h (fun r7 σ8 H locs hq w => ?_)
      obtain ⟨y9, rfl, h⟩ := hq
      refine W.eq (g2 := F0 m 66 ls [.int y9]) rfl ?_
      refine lv_istore (lv' := [(4, .int y9), (3, .int x4), (0, .ref (ad 54)), (5, .int x5)]) hx hb dX0_gather_66 hl (by decide) rfl (fun ls hl => ?_)
      refine lv_iinc (v := x5 + 1) (lv' := [(5, .int (x5 + 1)), (4, .int y9), (3, .int x4), (0, .ref (ad 54))]) hx hb dX0_gather_68 hl (k := 3) rfl rfl (by decide) rfl (fun ls hl => ?_)
      refine lv_goto (tgt := 24) hx hb dX0_gather_71 (by decide) ?_
      exact h _ _ _ _ _ _ _ _ _ _ _ _ _ _ _ _ C w (lv_sub hl [3, 2, 1, 0] rfl)
set_option maxHeartbeats 4000000 in
set_option maxRecDepth 100000 in
theorem b_X0_gather_0 (d : Nat) (x1 : Int32) (x2 : Int32) (σ : tk_S) (Q : tk_S → Prop) (h : p_X2_clear d [aN 57] σ (fun σ2 => p_X2_raise d [aN 57, aI x1, aI x2] σ2 (fun σ4 => g_X0_gather (d + 1) 24 [(0, aN 54), (3, aI 0), (4, aI 1), (5, aI 0)] σ4 Q))) : g_X0_gather (d + 1) 0 [(0, aN 54), (1, aI x1), (2, aI x2)] σ Q := by
  intro p l e s m args below meth c D cy ad base H locs ls C w hl
  obtain ⟨hx, hb, hml, hown, hts, hr, hlk⟩ := id C
  have hl : lv_has ls 6 [(0, .ref (ad 54)), (1, .int x1), (2, .int x2)] := hl
  refine lv_aload_n hx hb dX0_gather_0 rfl (lv_at hl 0 rfl) ?_
  refine tk_get (k := 54) (v := .ref (ad 57)) hx hb hts hown w rfl rfl inlX0 1 (by decide) mw_86 rfl dX0_gather_1 ?_
  refine tk_cV C w (k := 57) rfl rfl (as := []) (rest := []) mw_172 mw_23 mw_691 mw_170 mw_171 hd_X2_clear (by decide) hl.1 (Nat.le_of_ble_eq_true rfl) rfl dX0_gather_4 h (fun r1 σ2 H locs hq w => ?_)
  obtain ⟨rfl, h⟩ := hq
  refine W.eq (g2 := F0 m 7 ls []) rfl ?_
  refine lv_aload_n hx hb dX0_gather_7 rfl (lv_at hl 0 rfl) ?_
  refine tk_get (k := 54) (v := .ref (ad 57)) hx hb hts hown w rfl rfl inlX0 1 (by decide) mw_86 rfl dX0_gather_8 ?_
  refine lv_iload_n hx hb dX0_gather_11 rfl (lv_at hl 1 rfl) ?_
  refine lv_iload_n hx hb dX0_gather_12 rfl (lv_at hl 2 rfl) ?_
  refine tk_cV C w (k := 57) rfl rfl (as := [aI x1, aI x2]) (rest := []) mw_180 mw_23 mw_692 mw_178 mw_179 hd_X2_raise (by decide) hl.1 (Nat.le_of_ble_eq_true rfl) rfl dX0_gather_13 h (fun r3 σ4 H locs hq w => ?_)
  obtain ⟨rfl, h⟩ := hq
  refine W.eq (g2 := F0 m 16 ls []) rfl ?_
  refine lv_iconst (v := 0) hx hb dX0_gather_16 (by decide) ?_
  refine lv_istore_n (lv' := [(3, .int 0), (0, .ref (ad 54)), (1, .int x1), (2, .int x2)]) hx hb dX0_gather_17 rfl hl (by decide) rfl (fun ls hl => ?_)
  refine lv_iconst (v := 1) hx hb dX0_gather_18 (by decide) ?_
  refine lv_istore (lv' := [(4, .int 1), (3, .int 0), (0, .ref (ad 54)), (1, .int x1), (2, .int x2)]) hx hb dX0_gather_19 hl (by decide) rfl (fun ls hl => ?_)
  refine lv_iconst (v := 0) hx hb dX0_gather_21 (by decide) ?_
  refine lv_istore (lv' := [(5, .int 0), (4, .int 1), (3, .int 0), (0, .ref (ad 54)), (1, .int x1), (2, .int x2)]) hx hb dX0_gather_22 hl (by decide) rfl (fun ls hl => ?_)
  exact h _ _ _ _ _ _ _ _ _ _ _ _ _ _ _ _ C w (lv_sub hl [3, 2, 1, 0] rfl)
theorem e_X0_gather (d : Nat) (x1 : Int32) (x2 : Int32) {σ : tk_S} {Q : tk_S → Prop} (h : g_X0_gather d 0 [(0, aN 54), (1, aI x1), (2, aI x2)] σ Q) : p_X0_gather d [aN 54, aI x1, aI x2] σ Q := tk_entry (by decide) rfl (fun _ => Nat.le_of_ble_eq_true rfl) (fun _ => rfl) h
abbrev g_X0_describe (d pc : Nat) (vals : List (Nat × tk_V)) (σ : tk_S) (Q : tk_S → Prop) : Prop := tk_G RX0 cX0_describe 4 none d pc vals σ (tk_v Q)
set_option maxHeartbeats 4000000 in
set_option maxRecDepth 100000 in
theorem b_X0_describe_42 (d : Nat) (k1 : Nat) (h_1 : tk_sh k1 = tk_ia 6) (x2 : Int32) (x3 : Int32) (σ : tk_S) (Q : tk_S → Prop) (h : (24 ≤ x3 → g_X0_describe (d + 1) 34 [(0, aN 54), (1, aN k1), (2, aI (x2 + 1))] σ Q) ∧ (¬ 24 ≤ x3 → vp_in x2 24 ∧ (((σ.1 58 (Int32.toNatClampNeg x2)) = 0 → g_X0_describe (d + 1) 34 [(0, aN 54), (1, aN k1), (2, aI (x2 + 1))] σ Q) ∧ (¬ (σ.1 58 (Int32.toNatClampNeg x2)) = 0 → p_X2_holds d [aN 57, aI x3, aI x2] σ (fun y6 σ5 => (y6 = 0 → g_X0_describe (d + 1) 42 [(0, aN 54), (1, aN k1), (2, aI x2), (3, aI (x3 + 1))] σ5 Q) ∧ (¬ y6 = 0 → ∀ σ8 : tk_S, σ8 = tk_up (tk_up σ5 k1 (Int32.toNatClampNeg 1) (if x3 < (σ5.1 k1 (Int32.toNatClampNeg 1)) then x3 else (σ5.1 k1 (Int32.toNatClampNeg 1)))) k1 (Int32.toNatClampNeg 2) (if x2 < ((tk_up σ5 k1 (Int32.toNatClampNeg 1) (if x3 < (σ5.1 k1 (Int32.toNatClampNeg 1)) then x3 else (σ5.1 k1 (Int32.toNatClampNeg 1)))).1 k1 (Int32.toNatClampNeg 2)) then x2 else ((tk_up σ5 k1 (Int32.toNatClampNeg 1) (if x3 < (σ5.1 k1 (Int32.toNatClampNeg 1)) then x3 else (σ5.1 k1 (Int32.toNatClampNeg 1)))).1 k1 (Int32.toNatClampNeg 2))) → ∀ σ9 : tk_S, σ9 = tk_up (tk_up σ8 k1 (Int32.toNatClampNeg 3) (if (σ8.1 k1 (Int32.toNatClampNeg 3)) < x3 then x3 else (σ8.1 k1 (Int32.toNatClampNeg 3)))) k1 (Int32.toNatClampNeg 4) (if ((tk_up σ8 k1 (Int32.toNatClampNeg 3) (if (σ8.1 k1 (Int32.toNatClampNeg 3)) < x3 then x3 else (σ8.1 k1 (Int32.toNatClampNeg 3)))).1 k1 (Int32.toNatClampNeg 4)) < x2 then x2 else ((tk_up σ8 k1 (Int32.toNatClampNeg 3) (if (σ8.1 k1 (Int32.toNatClampNeg 3)) < x3 then x3 else (σ8.1 k1 (Int32.toNatClampNeg 3)))).1 k1 (Int32.toNatClampNeg 4))) → p_X2_countBeside d [aN 57, aI x3, aI x2] σ9 (fun y12 σ11 => (¬ y12 = 1 → g_X0_describe (d + 1) 42 [(0, aN 54), (1, aN k1), (2, aI x2), (3, aI (x3 + 1))] (tk_up σ11 k1 (Int32.toNatClampNeg 5) ((σ9.1 k1 (Int32.toNatClampNeg 5)) + 0)) Q) ∧ (y12 = 1 → g_X0_describe (d + 1) 42 [(0, aN 54), (1, aN k1), (2, aI x2), (3, aI (x3 + 1))] (tk_up σ11 k1 (Int32.toNatClampNeg 5) ((σ9.1 k1 (Int32.toNatClampNeg 5)) + 1)) Q)))))))) : g_X0_describe (d + 1) 42 [(0, aN 54), (1, aN k1), (2, aI x2), (3, aI x3)] σ Q := by
  intro p l e s m args below meth c D cy ad base H locs ls C w hl
  obtain ⟨hx, hb, hml, hown, hts, hr, hlk⟩ := id C
  have hl : lv_has ls 4 [(0, .ref (ad 54)), (1, .ref (ad k1)), (2, .int x2), (3, .int x3)] := hl
  refine lv_iload_n hx hb dX0_describe_42 rfl (lv_at hl 3 rfl) ?_
  refine lv_bipush (v := 24) hx hb dX0_describe_43 (by decide) ?_
  refine lv_icmp_ge (tgt := 142) hx hb dX0_describe_45 (by decide) (fun c1 => ?_) (fun c1 => ?_)
  · have h := h.1 c1
    refine lv_iinc (v := x2 + 1) (lv' := [(2, .int (x2 + 1)), (0, .ref (ad 54)), (1, .ref (ad k1)), (3, .int x3)]) hx hb dX0_describe_142 hl (k := 2) rfl rfl (by decide) rfl (fun ls hl => ?_)
    refine lv_goto (tgt := 34) hx hb dX0_describe_145 (by decide) ?_
    exact h _ _ _ _ _ _ _ _ _ _ _ _ _ _ _ _ C w (lv_sub hl [1, 2, 0] rfl)
  · have h := h.2 c1
    refine lv_aload_n hx hb dX0_describe_48 rfl (lv_at hl 0 rfl) ?_
    refine tk_get (k := 54) (v := .ref (ad 57)) hx hb hts hown w rfl rfl inlX0 1 (by decide) mw_86 rfl dX0_describe_49 ?_
    refine tk_get (k := 57) (v := .ref (ad 58)) hx hb hts hown w rfl rfl inlX2 0 (by decide) mw_684 rfl dX0_describe_52 ?_
    refine lv_iload_n hx hb dX0_describe_55 rfl (lv_at hl 2 rfl) ?_
    obtain ⟨hi2, h⟩ := h
    refine tk_iald (k := 58) hx hb w rfl hi2 dX0_describe_56 ?_
    refine lv_if_eq (tgt := 142) hx hb dX0_describe_57 (by decide) (fun c3 => ?_) (fun c3 => ?_)
    · have h := h.1 c3
      refine lv_iinc (v := x2 + 1) (lv' := [(2, .int (x2 + 1)), (0, .ref (ad 54)), (1, .ref (ad k1)), (3, .int x3)]) hx hb dX0_describe_142 hl (k := 2) rfl rfl (by decide) rfl (fun ls hl => ?_)
      refine lv_goto (tgt := 34) hx hb dX0_describe_145 (by decide) ?_
      exact h _ _ _ _ _ _ _ _ _ _ _ _ _ _ _ _ C w (lv_sub hl [1, 2, 0] rfl)
    · have h := h.2 c3
      refine lv_aload_n hx hb dX0_describe_60 rfl (lv_at hl 0 rfl) ?_
      refine tk_get (k := 54) (v := .ref (ad 57)) hx hb hts hown w rfl rfl inlX0 1 (by decide) mw_86 rfl dX0_describe_61 ?_
      refine lv_iload_n hx hb dX0_describe_64 rfl (lv_at hl 3 rfl) ?_
      refine lv_iload_n hx hb dX0_describe_65 rfl (lv_at hl 2 rfl) ?_
      refine tk_cV C w (k := 57) rfl rfl (as := [aI x3, aI x2]) (rest := []) mw_380 mw_23 mw_686 mw_378 mw_379 hd_X2_holds (by decide) hl.1 (Nat.le_of_ble_eq_true rfl) rfl dX0_describe_66 h (fun r4 σ5 H locs hq w => ?_)
      obtain ⟨y6, rfl, h⟩ := hq
      refine W.eq (g2 := F0 m 69 ls [.int y6]) rfl ?_
      refine lv_if_eq (tgt := 136) hx hb dX0_describe_69 (by decide) (fun c7 => ?_) (fun c7 => ?_)
      · have h := h.1 c7
        refine lv_iinc (v := x3 + 1) (lv' := [(3, .int (x3 + 1)), (0, .ref (ad 54)), (1, .ref (ad k1)), (2, .int x2)]) hx hb dX0_describe_136 hl (k := 3) rfl rfl (by decide) rfl (fun ls hl => ?_)
        refine lv_goto (tgt := 42) hx hb dX0_describe_139 (by decide) ?_
        exact h _ _ _ _ _ _ _ _ _ _ _ _ _ _ _ _ C w (lv_sub hl [1, 2, 3, 0] rfl)
      · have h := h.2 c7
        refine lv_aload_n hx hb dX0_describe_72 rfl (lv_at hl 1 rfl) ?_
        refine lv_iconst (v := 1) hx hb dX0_describe_73 (by decide) ?_
        refine lv_aload_n hx hb dX0_describe_74 rfl (lv_at hl 1 rfl) ?_
        refine lv_iconst (v := 1) hx hb dX0_describe_75 (by decide) ?_
        refine tk_iald (k := k1) hx hb w h_1 (by unfold vp_in; decide) dX0_describe_76 ?_
        refine lv_iload_n hx hb dX0_describe_77 rfl (lv_at hl 3 rfl) ?_
        refine va_mmin hx hb (by rw [hml]; exact hl.1.symm) hown (hts _ mw_703) (hts _ mw_704) (hts _ mw_187) (hts _ mw_705) (Nat.succ_le_succ (Nat.zero_le _)) (Nat.le_trans (m := 64) (Nat.le_of_ble_eq_true rfl) (by show 64 ≤ 64 * (d + 1); omega)) (Nat.le_refl _) (Nat.le_refl _) dX0_describe_78 ?_
        refine tk_iast (k := k1) hx hb w h_1 (by unfold vp_in; decide) dX0_describe_81 (fun H locs w => ?_)
        refine lv_aload_n hx hb dX0_describe_82 rfl (lv_at hl 1 rfl) ?_
        refine lv_iconst (v := 2) hx hb dX0_describe_83 (by decide) ?_
        refine lv_aload_n hx hb dX0_describe_84 rfl (lv_at hl 1 rfl) ?_
        refine lv_iconst (v := 2) hx hb dX0_describe_85 (by decide) ?_
        refine tk_iald (k := k1) hx hb w h_1 (by unfold vp_in; decide) dX0_describe_86 ?_
        refine lv_iload_n hx hb dX0_describe_87 rfl (lv_at hl 2 rfl) ?_
        refine va_mmin hx hb (by rw [hml]; exact hl.1.symm) hown (hts _ mw_703) (hts _ mw_704) (hts _ mw_187) (hts _ mw_705) (Nat.succ_le_succ (Nat.zero_le _)) (Nat.le_trans (m := 64) (Nat.le_of_ble_eq_true rfl) (by show 64 ≤ 64 * (d + 1); omega)) (Nat.le_refl _) (Nat.le_refl _) dX0_describe_88 ?_
        refine tk_iast (k := k1) hx hb w h_1 (by unfold vp_in; decide) dX0_describe_91 (fun H locs w => ?_)
        generalize e_σ8 : tk_up (tk_up σ5 k1 (Int32.toNatClampNeg 1) (if x3 < (σ5.1 k1 (Int32.toNatClampNeg 1)) then x3 else (σ5.1 k1 (Int32.toNatClampNeg 1)))) k1 (Int32.toNatClampNeg 2) (if x2 < ((tk_up σ5 k1 (Int32.toNatClampNeg 1) (if x3 < (σ5.1 k1 (Int32.toNatClampNeg 1)) then x3 else (σ5.1 k1 (Int32.toNatClampNeg 1)))).1 k1 (Int32.toNatClampNeg 2)) then x2 else ((tk_up σ5 k1 (Int32.toNatClampNeg 1) (if x3 < (σ5.1 k1 (Int32.toNatClampNeg 1)) then x3 else (σ5.1 k1 (Int32.toNatClampNeg 1)))).1 k1 (Int32.toNatClampNeg 2))) = σ8 at w
        have h := h σ8 e_σ8.symm
        refine lv_aload_n hx hb dX0_describe_92 rfl (lv_at hl 1 rfl) ?_
        refine lv_iconst (v := 3) hx hb dX0_describe_93 (by decide) ?_
        refine lv_aload_n hx hb dX0_describe_94 rfl (lv_at hl 1 rfl) ?_
        refine lv_iconst (v := 3) hx hb dX0_describe_95 (by decide) ?_
        refine tk_iald (k := k1) hx hb w h_1 (by unfold vp_in; decide) dX0_describe_96 ?_
        refine lv_iload_n hx hb dX0_describe_97 rfl (lv_at hl 3 rfl) ?_
        refine va_mmax hx hb (by rw [hml]; exact hl.1.symm) hown (hts _ mw_706) (hts _ mw_190) (hts _ mw_187) (hts _ mw_191) (Nat.succ_le_succ (Nat.zero_le _)) (Nat.le_trans (m := 64) (Nat.le_of_ble_eq_true rfl) (by show 64 ≤ 64 * (d + 1); omega)) (Nat.le_refl _) (Nat.le_refl _) dX0_describe_98 ?_
        refine tk_iast (k := k1) hx hb w h_1 (by unfold vp_in; decide) dX0_describe_101 (fun H locs w => ?_)
        refine lv_aload_n hx hb dX0_describe_102 rfl (lv_at hl 1 rfl) ?_
        refine lv_iconst (v := 4) hx hb dX0_describe_103 (by decide) ?_
        refine lv_aload_n hx hb dX0_describe_104 rfl (lv_at hl 1 rfl) ?_
        refine lv_iconst (v := 4) hx hb dX0_describe_105 (by decide) ?_
        refine tk_iald (k := k1) hx hb w h_1 (by unfold vp_in; decide) dX0_describe_106 ?_
        refine lv_iload_n hx hb dX0_describe_107 rfl (lv_at hl 2 rfl) ?_
        refine va_mmax hx hb (by rw [hml]; exact hl.1.symm) hown (hts _ mw_706) (hts _ mw_190) (hts _ mw_187) (hts _ mw_191) (Nat.succ_le_succ (Nat.zero_le _)) (Nat.le_trans (m := 64) (Nat.le_of_ble_eq_true rfl) (by show 64 ≤ 64 * (d + 1); omega)) (Nat.le_refl _) (Nat.le_refl _) dX0_describe_108 ?_
        refine tk_iast (k := k1) hx hb w h_1 (by unfold vp_in; decide) dX0_describe_111 (fun H locs w => ?_)
        generalize e_σ9 : tk_up (tk_up σ8 k1 (Int32.toNatClampNeg 3) (if (σ8.1 k1 (Int32.toNatClampNeg 3)) < x3 then x3 else (σ8.1 k1 (Int32.toNatClampNeg 3)))) k1 (Int32.toNatClampNeg 4) (if ((tk_up σ8 k1 (Int32.toNatClampNeg 3) (if (σ8.1 k1 (Int32.toNatClampNeg 3)) < x3 then x3 else (σ8.1 k1 (Int32.toNatClampNeg 3)))).1 k1 (Int32.toNatClampNeg 4)) < x2 then x2 else ((tk_up σ8 k1 (Int32.toNatClampNeg 3) (if (σ8.1 k1 (Int32.toNatClampNeg 3)) < x3 then x3 else (σ8.1 k1 (Int32.toNatClampNeg 3)))).1 k1 (Int32.toNatClampNeg 4))) = σ9 at w
        have h := h σ9 e_σ9.symm
        refine lv_aload_n hx hb dX0_describe_112 rfl (lv_at hl 1 rfl) ?_
        refine lv_iconst (v := 5) hx hb dX0_describe_113 (by decide) ?_
        refine lv_dup2_11 hx hb dX0_describe_114 rfl rfl ?_
        refine tk_iald (k := k1) hx hb w h_1 (by unfold vp_in; decide) dX0_describe_115 ?_
        refine lv_aload_n hx hb dX0_describe_116 rfl (lv_at hl 0 rfl) ?_
        refine tk_get (k := 54) (v := .ref (ad 57)) hx hb hts hown w rfl rfl inlX0 1 (by decide) mw_86 rfl dX0_describe_117 ?_
        refine lv_iload_n hx hb dX0_describe_120 rfl (lv_at hl 3 rfl) ?_
        refine lv_iload_n hx hb dX0_describe_121 rfl (lv_at hl 2 rfl) ?_
        refine tk_cV C w (k := 57) rfl rfl (as := [aI x3, aI x2]) (rest := [.int (σ9.1 k1 (Int32.toNatClampNeg 5)), .int 5, .ref (ad k1)]) mw_710 mw_23 mw_707 mw_708 mw_709 hd_X2_countBeside (by decide) hl.1 (Nat.le_of_ble_eq_true rfl) rfl dX0_describe_122 h (fun r10 σ11 H locs hq w => ?_)
        obtain ⟨y12, rfl, h⟩ := hq
        refine W.eq (g2 := F0 m 125 ls [.int y12, .int (σ9.1 k1 (Int32.toNatClampNeg 5)), .int 5, .ref (ad k1)]) rfl ?_
        refine lv_iconst (v := 1) hx hb dX0_describe_125 (by decide) ?_
        refine lv_icmp_ne (tgt := 133) hx hb dX0_describe_126 (by decide) (fun c13 => ?_) (fun c13 => ?_)
        · have h := h.1 c13
          refine lv_iconst (v := 0) hx hb dX0_describe_133 (by decide) ?_
          refine lv_iadd hx hb dX0_describe_134 ?_
          refine tk_iast (k := k1) hx hb w h_1 (by unfold vp_in; decide) dX0_describe_135 (fun H locs w => ?_)
          refine lv_iinc (v := x3 + 1) (lv' := [(3, .int (x3 + 1)), (0, .ref (ad 54)), (1, .ref (ad k1)), (2, .int x2)]) hx hb dX0_describe_136 hl (k := 3) rfl rfl (by decide) rfl (fun ls hl => ?_)
          refine lv_goto (tgt := 42) hx hb dX0_describe_139 (by decide) ?_
          exact h _ _ _ _ _ _ _ _ _ _ _ _ _ _ _ _ C w (lv_sub hl [1, 2, 3, 0] rfl)
        · have h := h.2 c13
          refine lv_iconst (v := 1) hx hb dX0_describe_129 (by decide) ?_
          refine lv_goto (tgt := 134) hx hb dX0_describe_130 (by decide) ?_
          refine lv_iadd hx hb dX0_describe_134 ?_
          refine tk_iast (k := k1) hx hb w h_1 (by unfold vp_in; decide) dX0_describe_135 (fun H locs w => ?_)
          refine lv_iinc (v := x3 + 1) (lv' := [(3, .int (x3 + 1)), (0, .ref (ad 54)), (1, .ref (ad k1)), (2, .int x2)]) hx hb dX0_describe_136 hl (k := 3) rfl rfl (by decide) rfl (fun ls hl => ?_)
          refine lv_goto (tgt := 42) hx hb dX0_describe_139 (by decide) ?_
          exact h _ _ _ _ _ _ _ _ _ _ _ _ _ _ _ _ C w (lv_sub hl [1, 2, 3, 0] rfl)
set_option maxHeartbeats 4000000 in
set_option maxRecDepth 100000 in
theorem b_X0_describe_34 (d : Nat) (k1 : Nat) (h_1 : tk_sh k1 = tk_ia 6) (x2 : Int32) (σ : tk_S) (Q : tk_S → Prop) (h : (24 ≤ x2 → Q σ) ∧ (¬ 24 ≤ x2 → g_X0_describe (d + 1) 42 [(0, aN 54), (1, aN k1), (2, aI x2), (3, aI 0)] σ Q)) : g_X0_describe (d + 1) 34 [(0, aN 54), (1, aN k1), (2, aI x2)] σ Q := by
  intro p l e s m args below meth c D cy ad base H locs ls C w hl
  obtain ⟨hx, hb, hml, hown, hts, hr, hlk⟩ := id C
  have hl : lv_has ls 4 [(0, .ref (ad 54)), (1, .ref (ad k1)), (2, .int x2)] := hl
  refine lv_iload_n hx hb dX0_describe_34 rfl (lv_at hl 2 rfl) ?_
  refine lv_bipush (v := 24) hx hb dX0_describe_35 (by decide) ?_
  refine lv_icmp_ge (tgt := 148) hx hb dX0_describe_37 (by decide) (fun c1 => ?_) (fun c1 => ?_)
  · have h := h.1 c1
    exact tk_retv C w dX0_describe_148 h
  · have h := h.2 c1
    refine lv_iconst (v := 0) hx hb dX0_describe_40 (by decide) ?_
    refine lv_istore_n (lv' := [(3, .int 0), (0, .ref (ad 54)), (1, .ref (ad k1)), (2, .int x2)]) hx hb dX0_describe_41 rfl hl (by decide) rfl (fun ls hl => ?_)
    exact h _ _ _ _ _ _ _ _ _ _ _ _ _ _ _ _ C w (lv_sub hl [1, 2, 3, 0] rfl)
set_option maxHeartbeats 4000000 in
set_option maxRecDepth 100000 in
theorem b_X0_describe_0 (d : Nat) (k1 : Nat) (h_1 : tk_sh k1 = tk_ia 6) (σ : tk_S) (Q : tk_S → Prop) (h : p_X2_size d [aN 57] σ (fun y3 σ2 => ∀ σ4 : tk_S, σ4 = tk_up (tk_up σ2 k1 (Int32.toNatClampNeg 0) y3) k1 (Int32.toNatClampNeg 1) 24 → ∀ σ5 : tk_S, σ5 = tk_up (tk_up σ4 k1 (Int32.toNatClampNeg 2) 24) k1 (Int32.toNatClampNeg 3) 0 → ∀ σ6 : tk_S, σ6 = tk_up (tk_up σ5 k1 (Int32.toNatClampNeg 4) 0) k1 (Int32.toNatClampNeg 5) 0 → g_X0_describe (d + 1) 34 [(0, aN 54), (1, aN k1), (2, aI 0)] σ6 Q)) : g_X0_describe (d + 1) 0 [(0, aN 54), (1, aN k1)] σ Q := by
  intro p l e s m args below meth c D cy ad base H locs ls C w hl
  obtain ⟨hx, hb, hml, hown, hts, hr, hlk⟩ := id C
  have hl : lv_has ls 4 [(0, .ref (ad 54)), (1, .ref (ad k1))] := hl
  refine lv_aload_n hx hb dX0_describe_0 rfl (lv_at hl 1 rfl) ?_
  refine lv_iconst (v := 0) hx hb dX0_describe_1 (by decide) ?_
  refine lv_aload_n hx hb dX0_describe_2 rfl (lv_at hl 0 rfl) ?_
  refine tk_get (k := 54) (v := .ref (ad 57)) hx hb hts hown w rfl rfl inlX0 1 (by decide) mw_86 rfl dX0_describe_3 ?_
  refine tk_cV C w (k := 57) rfl rfl (as := []) (rest := [.int 0, .ref (ad k1)]) mw_357 mw_23 mw_698 mw_355 mw_356 hd_X2_size (by decide) hl.1 (Nat.le_of_ble_eq_true rfl) rfl dX0_describe_6 h (fun r1 σ2 H locs hq w => ?_)
  obtain ⟨y3, rfl, h⟩ := hq
  refine W.eq (g2 := F0 m 9 ls [.int y3, .int 0, .ref (ad k1)]) rfl ?_
  refine tk_iast (k := k1) hx hb w h_1 (by unfold vp_in; decide) dX0_describe_9 (fun H locs w => ?_)
  refine lv_aload_n hx hb dX0_describe_10 rfl (lv_at hl 1 rfl) ?_
  refine lv_iconst (v := 1) hx hb dX0_describe_11 (by decide) ?_
  refine lv_bipush (v := 24) hx hb dX0_describe_12 (by decide) ?_
  refine tk_iast (k := k1) hx hb w h_1 (by unfold vp_in; decide) dX0_describe_14 (fun H locs w => ?_)
  generalize e_σ4 : tk_up (tk_up σ2 k1 (Int32.toNatClampNeg 0) y3) k1 (Int32.toNatClampNeg 1) 24 = σ4 at w
  have h := h σ4 e_σ4.symm
  refine lv_aload_n hx hb dX0_describe_15 rfl (lv_at hl 1 rfl) ?_
  refine lv_iconst (v := 2) hx hb dX0_describe_16 (by decide) ?_
  refine lv_bipush (v := 24) hx hb dX0_describe_17 (by decide) ?_
  refine tk_iast (k := k1) hx hb w h_1 (by unfold vp_in; decide) dX0_describe_19 (fun H locs w => ?_)
  refine lv_aload_n hx hb dX0_describe_20 rfl (lv_at hl 1 rfl) ?_
  refine lv_iconst (v := 3) hx hb dX0_describe_21 (by decide) ?_
  refine lv_iconst (v := 0) hx hb dX0_describe_22 (by decide) ?_
  refine tk_iast (k := k1) hx hb w h_1 (by unfold vp_in; decide) dX0_describe_23 (fun H locs w => ?_)
  generalize e_σ5 : tk_up (tk_up σ4 k1 (Int32.toNatClampNeg 2) 24) k1 (Int32.toNatClampNeg 3) 0 = σ5 at w
  have h := h σ5 e_σ5.symm
  refine lv_aload_n hx hb dX0_describe_24 rfl (lv_at hl 1 rfl) ?_
  refine lv_iconst (v := 4) hx hb dX0_describe_25 (by decide) ?_
  refine lv_iconst (v := 0) hx hb dX0_describe_26 (by decide) ?_
  refine tk_iast (k := k1) hx hb w h_1 (by unfold vp_in; decide) dX0_describe_27 (fun H locs w => ?_)
  refine lv_aload_n hx hb dX0_describe_28 rfl (lv_at hl 1 rfl) ?_
  refine lv_iconst (v := 5) hx hb dX0_describe_29 (by decide) ?_
  refine lv_iconst (v := 0) hx hb dX0_describe_30 (by decide) ?_
  refine tk_iast (k := k1) hx hb w h_1 (by unfold vp_in; decide) dX0_describe_31 (fun H locs w => ?_)
  generalize e_σ6 : tk_up (tk_up σ5 k1 (Int32.toNatClampNeg 4) 0) k1 (Int32.toNatClampNeg 5) 0 = σ6 at w
  have h := h σ6 e_σ6.symm
  refine lv_iconst (v := 0) hx hb dX0_describe_32 (by decide) ?_
  refine lv_istore_n (lv' := [(2, .int 0), (0, .ref (ad 54)), (1, .ref (ad k1))]) hx hb dX0_describe_33 rfl hl (by decide) rfl (fun ls hl => ?_)
  exact h _ _ _ _ _ _ _ _ _ _ _ _ _ _ _ _ C w (lv_sub hl [1, 2, 0] rfl)
theorem e_X0_describe (d : Nat) (k1 : Nat) {σ : tk_S} {Q : tk_S → Prop} (h : g_X0_describe d 0 [(0, aN 54), (1, aN k1)] σ Q) : p_X0_describe d [aN 54, aN k1] σ Q := tk_entry (by decide) rfl (fun _ => Nat.le_of_ble_eq_true rfl) (fun _ => rfl) h
