/-! the constructor of X6 -/
theorem df_X6 : ∀ j, j < 9 → defaultValue (tyX6 j) = vp_V [.null, .null, .null, .null, .null, .null, .null, .int 0, .long 0] j := fun j hj => by
  match j, hj with
  | 0, _ => rfl
  | 1, _ => rfl
  | 2, _ => rfl
  | 3, _ => rfl
  | 4, _ => rfl
  | 5, _ => rfl
  | 6, _ => rfl
  | 7, _ => rfl
  | 8, _ => rfl
def LL6 (cy : Nat → ClassId) (b : Nat) : List va_E := .inr (6, [.ref (b + 1), .ref (b + 2), .ref (b + 3), .ref (b + 4), .ref (b + 5), .ref (b + 6), .ref (b + 7), .int 0, .long 0]) :: (List.set (α := va_E) (List.set (α := va_E) (List.set (α := va_E) (List.set (α := va_E) (List.set (α := va_E) (List.set (α := va_E) (List.set (α := va_E) (List.set (α := va_E) (([] : List va_E) ++ [.inl (cy 0, 4, .inl (fun _ => 0))] ++ [.inl (cy 0, 4, .inl (fun _ => 0))] ++ [.inl (cy 0, 12, .inl (fun _ => 0))] ++ [.inl (cy 0, 4, .inl (fun _ => 0))] ++ [.inl (cy 0, 16, .inl (fun _ => 0))] ++ [.inl (cy 0, 4, .inl (fun _ => 0))] ++ [.inl (cy 3, 13, .inr (.inr (.inr (.inr (fun j => some (b + 7 + 1 + j))))))] ++ List.replicate 13 (.inl (cy 0, 12, .inl (fun _ => 0)))) 0 (.inl (cy 0, 4, .inl (upd (fun _ => 0) 0 14)))) 1 (.inl (cy 0, 4, .inl (upd (fun _ => 0) 0 0)))) 0 (.inl (cy 0, 4, .inl (upd (upd (fun _ => 0) 0 14) 1 13)))) 1 (.inl (cy 0, 4, .inl (upd (upd (fun _ => 0) 0 0) 1 1)))) 0 (.inl (cy 0, 4, .inl (upd (upd (upd (fun _ => 0) 0 14) 1 13) 2 11)))) 1 (.inl (cy 0, 4, .inl (upd (upd (upd (fun _ => 0) 0 0) 1 1) 2 2)))) 0 (.inl (cy 0, 4, .inl (upd (upd (upd (upd (fun _ => 0) 0 14) 1 13) 2 11) 3 7)))) 1 (.inl (cy 0, 4, .inl (upd (upd (upd (upd (fun _ => 0) 0 0) 1 1) 2 2) 3 3))))
theorem hd_X6_init : yX6_init.cls ≠ "java/lang/invoke/MethodHandle" ∧ yX6_init.cls ≠ "java/lang/invoke/VarHandle" ∧ (parseMethodDescriptor yX6_init.desc).map (fun d => d.parameters.length) = some 0 := ⟨by decide, by decide, by decide +kernel⟩
set_option maxHeartbeats 8000000 in
set_option maxRecDepth 100000 in
theorem C_X6 : ck_C yX6_init cX6_init 2 1 20 213 (.inr (6, [.null, .null, .null, .null, .null, .null, .null, .int 0, .long 0])) LL6 := by
  refine ck_entry (own := RX6) (by decide) rfl rfl (fun _ => Nat.le_of_ble_eq_true rfl) (fun p l e s m below meth c D cy b ls C w hz hl => ?_)
  obtain ⟨hx, hb, hml, hown, hts, hr, hlk, hnm⟩ := id C
  have hl0 : ([] : List va_E).length = 0 := rfl
  refine lv_aload_n hx hb dX6_init_0 rfl (lv_at hl 0 rfl) ?_
  refine cb_obj C (inr_4 (List.mem_of_getElem? (i := 0) rfl)) hl.1 dX6_init_1 ?_
  refine lv_aload_n hx hb dX6_init_4 rfl (lv_at hl 0 rfl) ?_
  refine lv_iconst (v := 4) hx hb dX6_init_5 (by decide) ?_
  refine cb_newa (N' := 4) (a := b + 1) (cells1 := 1) (slots1 := 4) C w hl0 (by decide) (by decide) (by decide) rfl rfl rfl (Nat.le_of_ble_eq_true rfl) (Nat.le_of_ble_eq_true rfl) dX6_init_6 (fun H K1 hK1 hl1 w => ?_)
  refine cb_put C w hz hl1 rfl inlX6 tyX6 tyX6_ok nmX6 0 (by decide) (inr_4 (List.mem_of_getElem? (i := 1) rfl)) rfl (ty := tyX6 0) (tyX6_ok 0 (by decide)) rfl rfl (Nat.le_of_ble_eq_true rfl) dX6_init_8 (fun H locs w => ?_)
  have w : ck_W D cy b (.inr (6, [.ref (b + 1), .null, .null, .null, .null, .null, .null, .int 0, .long 0]) :: K1) s H locs := w
  refine lv_aload_n hx hb dX6_init_11 rfl (lv_at hl 0 rfl) ?_
  refine lv_iconst (v := 4) hx hb dX6_init_12 (by decide) ?_
  refine cb_newa (N' := 4) (a := b + 2) (cells1 := 2) (slots1 := 8) C w hl1 (by decide) (by decide) (by decide) rfl rfl rfl (Nat.le_of_ble_eq_true rfl) (Nat.le_of_ble_eq_true rfl) dX6_init_13 (fun H K2 hK2 hl2 w => ?_)
  refine cb_put C w hz hl2 rfl inlX6 tyX6 tyX6_ok nmX6 1 (by decide) (inr_4 (List.mem_of_getElem? (i := 2) rfl)) rfl (ty := tyX6 1) (tyX6_ok 1 (by decide)) rfl rfl (Nat.le_of_ble_eq_true rfl) dX6_init_15 (fun H locs w => ?_)
  have w : ck_W D cy b (.inr (6, [.ref (b + 1), .ref (b + 2), .null, .null, .null, .null, .null, .int 0, .long 0]) :: K2) s H locs := w
  refine lv_aload_n hx hb dX6_init_18 rfl (lv_at hl 0 rfl) ?_
  refine lv_bipush (v := 12) hx hb dX6_init_19 (by decide) ?_
  refine cb_newa (N' := 12) (a := b + 3) (cells1 := 3) (slots1 := 20) C w hl2 (by decide) (by decide) (by decide) rfl rfl rfl (Nat.le_of_ble_eq_true rfl) (Nat.le_of_ble_eq_true rfl) dX6_init_21 (fun H K3 hK3 hl3 w => ?_)
  refine cb_put C w hz hl3 rfl inlX6 tyX6 tyX6_ok nmX6 2 (by decide) (inr_4 (List.mem_of_getElem? (i := 3) rfl)) rfl (ty := tyX6 2) (tyX6_ok 2 (by decide)) rfl rfl (Nat.le_of_ble_eq_true rfl) dX6_init_23 (fun H locs w => ?_)
  have w : ck_W D cy b (.inr (6, [.ref (b + 1), .ref (b + 2), .ref (b + 3), .null, .null, .null, .null, .int 0, .long 0]) :: K3) s H locs := w
  refine lv_aload_n hx hb dX6_init_26 rfl (lv_at hl 0 rfl) ?_
  refine lv_iconst (v := 4) hx hb dX6_init_27 (by decide) ?_
  refine cb_newa (N' := 4) (a := b + 4) (cells1 := 4) (slots1 := 24) C w hl3 (by decide) (by decide) (by decide) rfl rfl rfl (Nat.le_of_ble_eq_true rfl) (Nat.le_of_ble_eq_true rfl) dX6_init_28 (fun H K4 hK4 hl4 w => ?_)
  refine cb_put C w hz hl4 rfl inlX6 tyX6 tyX6_ok nmX6 3 (by decide) (inr_4 (List.mem_of_getElem? (i := 4) rfl)) rfl (ty := tyX6 3) (tyX6_ok 3 (by decide)) rfl rfl (Nat.le_of_ble_eq_true rfl) dX6_init_30 (fun H locs w => ?_)
  have w : ck_W D cy b (.inr (6, [.ref (b + 1), .ref (b + 2), .ref (b + 3), .ref (b + 4), .null, .null, .null, .int 0, .long 0]) :: K4) s H locs := w
  refine lv_aload_n hx hb dX6_init_33 rfl (lv_at hl 0 rfl) ?_
  refine lv_bipush (v := 16) hx hb dX6_init_34 (by decide) ?_
  refine cb_newa (N' := 16) (a := b + 5) (cells1 := 5) (slots1 := 40) C w hl4 (by decide) (by decide) (by decide) rfl rfl rfl (Nat.le_of_ble_eq_true rfl) (Nat.le_of_ble_eq_true rfl) dX6_init_36 (fun H K5 hK5 hl5 w => ?_)
  refine cb_put C w hz hl5 rfl inlX6 tyX6 tyX6_ok nmX6 4 (by decide) (inr_4 (List.mem_of_getElem? (i := 5) rfl)) rfl (ty := tyX6 4) (tyX6_ok 4 (by decide)) rfl rfl (Nat.le_of_ble_eq_true rfl) dX6_init_38 (fun H locs w => ?_)
  have w : ck_W D cy b (.inr (6, [.ref (b + 1), .ref (b + 2), .ref (b + 3), .ref (b + 4), .ref (b + 5), .null, .null, .int 0, .long 0]) :: K5) s H locs := w
  refine lv_aload_n hx hb dX6_init_41 rfl (lv_at hl 0 rfl) ?_
  refine lv_iconst (v := 4) hx hb dX6_init_42 (by decide) ?_
  refine cb_newa (N' := 4) (a := b + 6) (cells1 := 6) (slots1 := 44) C w hl5 (by decide) (by decide) (by decide) rfl rfl rfl (Nat.le_of_ble_eq_true rfl) (Nat.le_of_ble_eq_true rfl) dX6_init_43 (fun H K6 hK6 hl6 w => ?_)
  refine cb_put C w hz hl6 rfl inlX6 tyX6 tyX6_ok nmX6 5 (by decide) (inr_4 (List.mem_of_getElem? (i := 6) rfl)) rfl (ty := tyX6 5) (tyX6_ok 5 (by decide)) rfl rfl (Nat.le_of_ble_eq_true rfl) dX6_init_45 (fun H locs w => ?_)
  have w : ck_W D cy b (.inr (6, [.ref (b + 1), .ref (b + 2), .ref (b + 3), .ref (b + 4), .ref (b + 5), .ref (b + 6), .null, .int 0, .long 0]) :: K6) s H locs := w
  refine lv_aload_n hx hb dX6_init_48 rfl (lv_at hl 0 rfl) ?_
  refine lv_bipush (v := 13) hx hb dX6_init_49 (by decide) ?_
  refine lv_bipush (v := 12) hx hb dX6_init_51 (by decide) ?_
  refine cb_mna (N' := 13) (K' := 12) (a := b + 7) (cells1 := 20) (slots1 := 213) C w hl6 (inr_4 (List.mem_of_getElem? (i := 7) rfl)) (by decide) (by decide) (by decide) (by decide) (by decide) (by decide) rfl rfl rfl (Nat.le_of_ble_eq_true rfl) (Nat.le_of_ble_eq_true rfl) dX6_init_53 (fun H K7 hK7 hl7 w => ?_)
  refine cb_put C w hz hl7 rfl inlX6 tyX6 tyX6_ok nmX6 6 (by decide) (inr_4 (List.mem_of_getElem? (i := 8) rfl)) rfl (ty := tyX6 6) (tyX6_ok 6 (by decide)) rfl rfl (Nat.le_of_ble_eq_true rfl) dX6_init_57 (fun H locs w => ?_)
  have w : ck_W D cy b (.inr (6, [.ref (b + 1), .ref (b + 2), .ref (b + 3), .ref (b + 4), .ref (b + 5), .ref (b + 6), .ref (b + 7), .int 0, .long 0]) :: K7) s H locs := w
  refine lv_iconst (v := 0) hx hb dX6_init_60 (by decide) ?_
  refine lv_istore_n (lv' := [(1, .int 0), (0, .ref b)]) hx hb dX6_init_61 rfl hl (by decide) rfl (fun ls hl => ?_)
  refine lv_iload_n hx hb dX6_init_62 rfl (lv_at hl 0 rfl) ?_
  refine lv_iconst (v := 4) hx hb dX6_init_63 (by decide) ?_
  refine lv_icmp_ge (tgt := 94) hx hb dX6_init_64 (by decide) (fun q => absurd q (by decide)) (fun _ => ?_)
  refine lv_aload_n hx hb dX6_init_67 rfl (lv_at hl 1 rfl) ?_
  have hA0 : K7[0]? = some (.inl (cy 0, 4, .inl (fun _ => 0))) := by rw [hK7, hK6, hK5, hK4, hK3, hK2, hK1]; rfl
  refine cb_get (v := .ref (b + 1)) C w rfl inlX6 0 (by decide) (inr_4 (List.mem_of_getElem? (i := 1) rfl)) rfl dX6_init_68 ?_
  refine lv_iload_n hx hb dX6_init_71 rfl (lv_at hl 0 rfl) ?_
  refine lv_bipush (v := 15) hx hb dX6_init_72 (by decide) ?_
  refine lv_iconst (v := 1) hx hb dX6_init_74 (by decide) ?_
  refine lv_iload_n hx hb dX6_init_75 rfl (lv_at hl 0 rfl) ?_
  refine lv_ishl hx hb dX6_init_76 ?_
  refine lv_topi (fun z1 ez1 => ?_)
  obtain rfl : z1 = (1) := ez1.trans (by decide)
  refine lv_iconst (v := (-1)) hx hb dX6_init_77 (by decide) ?_
  refine lv_ixor hx hb dX6_init_78 ?_
  refine lv_topi (fun z2 ez2 => ?_)
  obtain rfl : z2 = (-2) := ez2.trans (by decide)
  refine lv_iand hx hb dX6_init_79 ?_
  refine lv_topi (fun z3 ez3 => ?_)
  obtain rfl : z3 = (14) := ez3.trans (by decide)
  refine cb_iast (i := 0) (a := b + 1) (qn := 0) C w hz hl7 hA0 rfl (by decide) (by unfold vp_in; decide) dX6_init_80 (fun H locs K8 hK8 hl8 hi8 ho8 w => ?_)
  refine lv_aload_n hx hb dX6_init_81 rfl (lv_at hl 1 rfl) ?_
  have hA1 : K8[1]? = some (.inl (cy 0, 4, .inl (fun _ => 0))) := by rw [hK8, hK7, hK6, hK5, hK4, hK3, hK2, hK1]; rfl
  refine cb_get (v := .ref (b + 2)) C w rfl inlX6 1 (by decide) (inr_4 (List.mem_of_getElem? (i := 2) rfl)) rfl dX6_init_82 ?_
  refine lv_iload_n hx hb dX6_init_85 rfl (lv_at hl 0 rfl) ?_
  refine lv_iload_n hx hb dX6_init_86 rfl (lv_at hl 0 rfl) ?_
  refine cb_iast (i := 1) (a := b + 2) (qn := 0) C w hz hl8 hA1 rfl (by decide) (by unfold vp_in; decide) dX6_init_87 (fun H locs K9 hK9 hl9 hi9 ho9 w => ?_)
  have hb9_0 := (ho9 0 (by decide)).trans hi8
  refine lv_iinc (v := 1) (lv' := [(1, .int 1), (0, .ref b)]) hx hb dX6_init_88 hl (k := 0) rfl (by decide) (by decide) rfl (fun ls hl => ?_)
  refine lv_goto (tgt := 62) hx hb dX6_init_91 (by decide) ?_
  refine lv_iload_n hx hb dX6_init_62 rfl (lv_at hl 0 rfl) ?_
  refine lv_iconst (v := 4) hx hb dX6_init_63 (by decide) ?_
  refine lv_icmp_ge (tgt := 94) hx hb dX6_init_64 (by decide) (fun q => absurd q (by decide)) (fun _ => ?_)
  refine lv_aload_n hx hb dX6_init_67 rfl (lv_at hl 1 rfl) ?_
  refine cb_get (v := .ref (b + 1)) C w rfl inlX6 0 (by decide) (inr_4 (List.mem_of_getElem? (i := 1) rfl)) rfl dX6_init_68 ?_
  refine lv_iload_n hx hb dX6_init_71 rfl (lv_at hl 0 rfl) ?_
  refine lv_bipush (v := 15) hx hb dX6_init_72 (by decide) ?_
  refine lv_iconst (v := 1) hx hb dX6_init_74 (by decide) ?_
  refine lv_iload_n hx hb dX6_init_75 rfl (lv_at hl 0 rfl) ?_
  refine lv_ishl hx hb dX6_init_76 ?_
  refine lv_topi (fun z4 ez4 => ?_)
  obtain rfl : z4 = (2) := ez4.trans (by decide)
  refine lv_iconst (v := (-1)) hx hb dX6_init_77 (by decide) ?_
  refine lv_ixor hx hb dX6_init_78 ?_
  refine lv_topi (fun z5 ez5 => ?_)
  obtain rfl : z5 = (-3) := ez5.trans (by decide)
  refine lv_iand hx hb dX6_init_79 ?_
  refine lv_topi (fun z6 ez6 => ?_)
  obtain rfl : z6 = (13) := ez6.trans (by decide)
  refine cb_iast (i := 0) (a := b + 1) (qn := 1) C w hz hl9 hb9_0 rfl (by decide) (by unfold vp_in; decide) dX6_init_80 (fun H locs K10 hK10 hl10 hi10 ho10 w => ?_)
  have hb10_1 := (ho10 1 (by decide)).trans hi9
  refine lv_aload_n hx hb dX6_init_81 rfl (lv_at hl 1 rfl) ?_
  refine cb_get (v := .ref (b + 2)) C w rfl inlX6 1 (by decide) (inr_4 (List.mem_of_getElem? (i := 2) rfl)) rfl dX6_init_82 ?_
  refine lv_iload_n hx hb dX6_init_85 rfl (lv_at hl 0 rfl) ?_
  refine lv_iload_n hx hb dX6_init_86 rfl (lv_at hl 0 rfl) ?_
  refine cb_iast (i := 1) (a := b + 2) (qn := 1) C w hz hl10 hb10_1 rfl (by decide) (by unfold vp_in; decide) dX6_init_87 (fun H locs K11 hK11 hl11 hi11 ho11 w => ?_)
  have hb11_0 := (ho11 0 (by decide)).trans hi10
  refine lv_iinc (v := 2) (lv' := [(1, .int 2), (0, .ref b)]) hx hb dX6_init_88 hl (k := 0) rfl (by decide) (by decide) rfl (fun ls hl => ?_)
  refine lv_goto (tgt := 62) hx hb dX6_init_91 (by decide) ?_
  refine lv_iload_n hx hb dX6_init_62 rfl (lv_at hl 0 rfl) ?_
  refine lv_iconst (v := 4) hx hb dX6_init_63 (by decide) ?_
  refine lv_icmp_ge (tgt := 94) hx hb dX6_init_64 (by decide) (fun q => absurd q (by decide)) (fun _ => ?_)
  refine lv_aload_n hx hb dX6_init_67 rfl (lv_at hl 1 rfl) ?_
  refine cb_get (v := .ref (b + 1)) C w rfl inlX6 0 (by decide) (inr_4 (List.mem_of_getElem? (i := 1) rfl)) rfl dX6_init_68 ?_
  refine lv_iload_n hx hb dX6_init_71 rfl (lv_at hl 0 rfl) ?_
  refine lv_bipush (v := 15) hx hb dX6_init_72 (by decide) ?_
  refine lv_iconst (v := 1) hx hb dX6_init_74 (by decide) ?_
  refine lv_iload_n hx hb dX6_init_75 rfl (lv_at hl 0 rfl) ?_
  refine lv_ishl hx hb dX6_init_76 ?_
  refine lv_topi (fun z7 ez7 => ?_)
  obtain rfl : z7 = (4) := ez7.trans (by decide)
  refine lv_iconst (v := (-1)) hx hb dX6_init_77 (by decide) ?_
  refine lv_ixor hx hb dX6_init_78 ?_
  refine lv_topi (fun z8 ez8 => ?_)
  obtain rfl : z8 = (-5) := ez8.trans (by decide)
  refine lv_iand hx hb dX6_init_79 ?_
  refine lv_topi (fun z9 ez9 => ?_)
  obtain rfl : z9 = (11) := ez9.trans (by decide)
  refine cb_iast (i := 0) (a := b + 1) (qn := 2) C w hz hl11 hb11_0 rfl (by decide) (by unfold vp_in; decide) dX6_init_80 (fun H locs K12 hK12 hl12 hi12 ho12 w => ?_)
  have hb12_1 := (ho12 1 (by decide)).trans hi11
  refine lv_aload_n hx hb dX6_init_81 rfl (lv_at hl 1 rfl) ?_
  refine cb_get (v := .ref (b + 2)) C w rfl inlX6 1 (by decide) (inr_4 (List.mem_of_getElem? (i := 2) rfl)) rfl dX6_init_82 ?_
  refine lv_iload_n hx hb dX6_init_85 rfl (lv_at hl 0 rfl) ?_
  refine lv_iload_n hx hb dX6_init_86 rfl (lv_at hl 0 rfl) ?_
  refine cb_iast (i := 1) (a := b + 2) (qn := 2) C w hz hl12 hb12_1 rfl (by decide) (by unfold vp_in; decide) dX6_init_87 (fun H locs K13 hK13 hl13 hi13 ho13 w => ?_)
  have hb13_0 := (ho13 0 (by decide)).trans hi12
  refine lv_iinc (v := 3) (lv' := [(1, .int 3), (0, .ref b)]) hx hb dX6_init_88 hl (k := 0) rfl (by decide) (by decide) rfl (fun ls hl => ?_)
  refine lv_goto (tgt := 62) hx hb dX6_init_91 (by decide) ?_
  refine lv_iload_n hx hb dX6_init_62 rfl (lv_at hl 0 rfl) ?_
  refine lv_iconst (v := 4) hx hb dX6_init_63 (by decide) ?_
  refine lv_icmp_ge (tgt := 94) hx hb dX6_init_64 (by decide) (fun q => absurd q (by decide)) (fun _ => ?_)
  refine lv_aload_n hx hb dX6_init_67 rfl (lv_at hl 1 rfl) ?_
  refine cb_get (v := .ref (b + 1)) C w rfl inlX6 0 (by decide) (inr_4 (List.mem_of_getElem? (i := 1) rfl)) rfl dX6_init_68 ?_
  refine lv_iload_n hx hb dX6_init_71 rfl (lv_at hl 0 rfl) ?_
  refine lv_bipush (v := 15) hx hb dX6_init_72 (by decide) ?_
  refine lv_iconst (v := 1) hx hb dX6_init_74 (by decide) ?_
  refine lv_iload_n hx hb dX6_init_75 rfl (lv_at hl 0 rfl) ?_
  refine lv_ishl hx hb dX6_init_76 ?_
  refine lv_topi (fun z10 ez10 => ?_)
  obtain rfl : z10 = (8) := ez10.trans (by decide)
  refine lv_iconst (v := (-1)) hx hb dX6_init_77 (by decide) ?_
  refine lv_ixor hx hb dX6_init_78 ?_
  refine lv_topi (fun z11 ez11 => ?_)
  obtain rfl : z11 = (-9) := ez11.trans (by decide)
  refine lv_iand hx hb dX6_init_79 ?_
  refine lv_topi (fun z12 ez12 => ?_)
  obtain rfl : z12 = (7) := ez12.trans (by decide)
  refine cb_iast (i := 0) (a := b + 1) (qn := 3) C w hz hl13 hb13_0 rfl (by decide) (by unfold vp_in; decide) dX6_init_80 (fun H locs K14 hK14 hl14 hi14 ho14 w => ?_)
  have hb14_1 := (ho14 1 (by decide)).trans hi13
  refine lv_aload_n hx hb dX6_init_81 rfl (lv_at hl 1 rfl) ?_
  refine cb_get (v := .ref (b + 2)) C w rfl inlX6 1 (by decide) (inr_4 (List.mem_of_getElem? (i := 2) rfl)) rfl dX6_init_82 ?_
  refine lv_iload_n hx hb dX6_init_85 rfl (lv_at hl 0 rfl) ?_
  refine lv_iload_n hx hb dX6_init_86 rfl (lv_at hl 0 rfl) ?_
  refine cb_iast (i := 1) (a := b + 2) (qn := 3) C w hz hl14 hb14_1 rfl (by decide) (by unfold vp_in; decide) dX6_init_87 (fun H locs K15 hK15 hl15 hi15 ho15 w => ?_)
  have hb15_0 := (ho15 0 (by decide)).trans hi14
  refine lv_iinc (v := 4) (lv' := [(1, .int 4), (0, .ref b)]) hx hb dX6_init_88 hl (k := 0) rfl (by decide) (by decide) rfl (fun ls hl => ?_)
  refine lv_goto (tgt := 62) hx hb dX6_init_91 (by decide) ?_
  refine lv_iload_n hx hb dX6_init_62 rfl (lv_at hl 0 rfl) ?_
  refine lv_iconst (v := 4) hx hb dX6_init_63 (by decide) ?_
  refine lv_icmp_ge (tgt := 94) hx hb dX6_init_64 (by decide) (fun _ => ?_) (fun q => absurd (by decide) q)
  exact cb_ret C w (by subst hK1 hK2 hK3 hK4 hK5 hK6 hK7 hK8 hK9 hK10 hK11 hK12 hK13 hK14 hK15; rfl) rfl rfl dX6_init_94
