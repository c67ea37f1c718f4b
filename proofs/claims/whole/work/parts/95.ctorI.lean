/-! the constructor of X8 -/
theorem df_X8 : ∀ j, j < 26 → defaultValue (tyX8 j) = vp_V [.int 0, .int 0, .int 0, .null, .null, .null, .null, .null, .null, .null, .null, .null, .null, .null, .null, .null, .null, .null, .null, .null, .int 0, .int 0, .null, .null, .null, .int 0] j := fun j hj => by
  obtain rfl | rfl | rfl | rfl | rfl | rfl | rfl | rfl | rfl | rfl | rfl | rfl | rfl | rfl | rfl | rfl | rfl | rfl | rfl | rfl | rfl | rfl | rfl | rfl | rfl | rfl : j = 0 ∨ j = 1 ∨ j = 2 ∨ j = 3 ∨ j = 4 ∨ j = 5 ∨ j = 6 ∨ j = 7 ∨ j = 8 ∨ j = 9 ∨ j = 10 ∨ j = 11 ∨ j = 12 ∨ j = 13 ∨ j = 14 ∨ j = 15 ∨ j = 16 ∨ j = 17 ∨ j = 18 ∨ j = 19 ∨ j = 20 ∨ j = 21 ∨ j = 22 ∨ j = 23 ∨ j = 24 ∨ j = 25 := by omega
  all_goals rfl
def LL8 (cy : Nat → ClassId) (b : Nat) : List va_E := .inr (8, [.int 0, .int 0, .int 2, .ref (b + 1), .ref (b + 2), .ref (b + 3), .ref (b + 4), .ref (b + 5), .ref (b + 6), .ref (b + 7), .ref (b + 8), .ref (b + 9), .ref (b + 10), .ref (b + 11), .ref (b + 12), .ref (b + 13), .ref (b + 14), .ref (b + 15), .ref (b + 16), .ref (b + 17), .int 0, .int 0, .ref (b + 18), .ref (b + 19), .ref (b + 20), .int 0]) :: (List.set (α := va_E) (List.set (α := va_E) (List.set (α := va_E) (List.set (α := va_E) (List.set (α := va_E) (List.set (α := va_E) (List.set (α := va_E) (List.set (α := va_E) (List.set (α := va_E) (List.set (α := va_E) (List.set (α := va_E) (List.set (α := va_E) (List.set (α := va_E) (List.set (α := va_E) (List.set (α := va_E) (List.set (α := va_E) (List.set (α := va_E) (List.set (α := va_E) (List.set (α := va_E) (List.set (α := va_E) (([] : List va_E) ++ [.inl (cy 0, 8, .inl (fun _ => 0))] ++ [.inl (cy 0, 8, .inl (fun _ => 0))] ++ [.inl (cy 0, 12, .inl (fun _ => 0))] ++ [.inl (cy 0, 12, .inl (fun _ => 0))] ++ [.inl (cy 0, 12, .inl (fun _ => 0))] ++ [.inl (cy 0, 96, .inl (fun _ => 0))] ++ [.inl (cy 0, 96, .inl (fun _ => 0))] ++ [.inl (cy 1, 6912, .inl (fun _ => 0))] ++ [.inl (cy 1, 144, .inl (fun _ => 0))] ++ [.inl (cy 1, 16, .inl (fun _ => 0))] ++ [.inl (cy 0, 4, .inl (fun _ => 0))] ++ [.inl (cy 0, 12, .inl (fun _ => 0))] ++ [.inl (cy 0, 12, .inl (fun _ => 0))] ++ [.inl (cy 0, 12, .inl (fun _ => 0))] ++ [.inl (cy 0, 12, .inl (fun _ => 0))] ++ [.inl (cy 0, 12, .inl (fun _ => 0))] ++ [.inl (cy 0, 12, .inl (fun _ => 0))] ++ [.inl (cy 1, 576, .inl (fun _ => 0))] ++ [.inl (cy 0, 576, .inl (fun _ => 0))] ++ [.inl (cy 0, 576, .inl (fun _ => 0))]) 10 (.inl (cy 0, 4, .inl (upd (fun _ => 0) 0 0)))) 9 (.inl (cy 1, 16, .inl (upd (fun _ => 0) 0 0)))) 9 (.inl (cy 1, 16, .inl (upd (upd (fun _ => 0) 0 0) 1 1)))) 9 (.inl (cy 1, 16, .inl (upd (upd (upd (fun _ => 0) 0 0) 1 1) 2 1)))) 9 (.inl (cy 1, 16, .inl (upd (upd (upd (upd (fun _ => 0) 0 0) 1 1) 2 1) 3 1)))) 10 (.inl (cy 0, 4, .inl (upd (upd (fun _ => 0) 0 0) 1 1)))) 9 (.inl (cy 1, 16, .inl (upd (upd (upd (upd (upd (fun _ => 0) 0 0) 1 1) 2 1) 3 1) 4 1)))) 9 (.inl (cy 1, 16, .inl (upd (upd (upd (upd (upd (upd (fun _ => 0) 0 0) 1 1) 2 1) 3 1) 4 1) 5 0)))) 9 (.inl (cy 1, 16, .inl (upd (upd (upd (upd (upd (upd (upd (fun _ => 0) 0 0) 1 1) 2 1) 3 1) 4 1) 5 0) 6 1)))) 9 (.inl (cy 1, 16, .inl (upd (upd (upd (upd (upd (upd (upd (upd (fun _ => 0) 0 0) 1 1) 2 1) 3 1) 4 1) 5 0) 6 1) 7 1)))) 10 (.inl (cy 0, 4, .inl (upd (upd (upd (fun _ => 0) 0 0) 1 1) 2 2)))) 9 (.inl (cy 1, 16, .inl (upd (upd (upd (upd (upd (upd (upd (upd (upd (fun _ => 0) 0 0) 1 1) 2 1) 3 1) 4 1) 5 0) 6 1) 7 1) 8 1)))) 9 (.inl (cy 1, 16, .inl (upd (upd (upd (upd (upd (upd (upd (upd (upd (upd (fun _ => 0) 0 0) 1 1) 2 1) 3 1) 4 1) 5 0) 6 1) 7 1) 8 1) 9 1)))) 9 (.inl (cy 1, 16, .inl (upd (upd (upd (upd (upd (upd (upd (upd (upd (upd (upd (fun _ => 0) 0 0) 1 1) 2 1) 3 1) 4 1) 5 0) 6 1) 7 1) 8 1) 9 1) 10 0)))) 9 (.inl (cy 1, 16, .inl (upd (upd (upd (upd (upd (upd (upd (upd (upd (upd (upd (upd (fun _ => 0) 0 0) 1 1) 2 1) 3 1) 4 1) 5 0) 6 1) 7 1) 8 1) 9 1) 10 0) 11 1)))) 10 (.inl (cy 0, 4, .inl (upd (upd (upd (upd (fun _ => 0) 0 0) 1 1) 2 2) 3 3)))) 9 (.inl (cy 1, 16, .inl (upd (upd (upd (upd (upd (upd (upd (upd (upd (upd (upd (upd (upd (fun _ => 0) 0 0) 1 1) 2 1) 3 1) 4 1) 5 0) 6 1) 7 1) 8 1) 9 1) 10 0) 11 1) 12 1)))) 9 (.inl (cy 1, 16, .inl (upd (upd (upd (upd (upd (upd (upd (upd (upd (upd (upd (upd (upd (upd (fun _ => 0) 0 0) 1 1) 2 1) 3 1) 4 1) 5 0) 6 1) 7 1) 8 1) 9 1) 10 0) 11 1) 12 1) 13 1)))) 9 (.inl (cy 1, 16, .inl (upd (upd (upd (upd (upd (upd (upd (upd (upd (upd (upd (upd (upd (upd (upd (fun _ => 0) 0 0) 1 1) 2 1) 3 1) 4 1) 5 0) 6 1) 7 1) 8 1) 9 1) 10 0) 11 1) 12 1) 13 1) 14 1)))) 9 (.inl (cy 1, 16, .inl (upd (upd (upd (upd (upd (upd (upd (upd (upd (upd (upd (upd (upd (upd (upd (upd (fun _ => 0) 0 0) 1 1) 2 1) 3 1) 4 1) 5 0) 6 1) 7 1) 8 1) 9 1) 10 0) 11 1) 12 1) 13 1) 14 1) 15 0))))
theorem hd_X8_init : yX8_init.cls ≠ "java/lang/invoke/MethodHandle" ∧ yX8_init.cls ≠ "java/lang/invoke/VarHandle" ∧ (parseMethodDescriptor yX8_init.desc).map (fun d => d.parameters.length) = some 0 := ⟨by decide, by decide, by decide +kernel⟩
set_option maxHeartbeats 8000000 in
set_option maxRecDepth 100000 in
theorem C_X8 : ck_C yX8_init cX8_init 3 1 20 9120 (.inr (8, [.int 0, .int 0, .int 0, .null, .null, .null, .null, .null, .null, .null, .null, .null, .null, .null, .null, .null, .null, .null, .null, .null, .int 0, .int 0, .null, .null, .null, .int 0])) LL8 := by
  refine ck_entry (own := RX8) (by decide) rfl rfl (fun _ => Nat.le_of_ble_eq_true rfl) (fun p l e s m below meth c D cy b ls C w hz hl => ?_)
  obtain ⟨hx, hb, hml, hown, hts, hr, hlk, hnm⟩ := id C
  have hl0 : ([] : List va_E).length = 0 := rfl
  refine lv_aload_n hx hb dX8_init_0 rfl (lv_at hl 0 rfl) ?_
  refine cb_obj C (inr_5 (List.mem_of_getElem? (i := 3) rfl)) hl.1 dX8_init_1 ?_
  refine lv_aload_n hx hb dX8_init_4 rfl (lv_at hl 0 rfl) ?_
  refine lv_iconst (v := 2) hx hb dX8_init_5 (by decide) ?_
  refine cb_put C w hz hl0 rfl inlX8 tyX8 tyX8_ok nmX8 2 (by decide) (inr_5 (List.mem_of_getElem? (i := 4) rfl)) rfl (ty := tyX8 2) (tyX8_ok 2 (by decide)) rfl rfl (Nat.le_of_ble_eq_true rfl) dX8_init_6 (fun H locs w => ?_)
  have w : ck_W D cy b (.inr (8, [.int 0, .int 0, .int 2, .null, .null, .null, .null, .null, .null, .null, .null, .null, .null, .null, .null, .null, .null, .null, .null, .null, .int 0, .int 0, .null, .null, .null, .int 0]) :: []) s H locs := w
  refine lv_aload_n hx hb dX8_init_9 rfl (lv_at hl 0 rfl) ?_
  refine lv_bipush (v := 8) hx hb dX8_init_10 (by decide) ?_
  refine cb_newa (N' := 8) (a := b + 1) (cells1 := 1) (slots1 := 8) C w hl0 (by decide) (by decide) (by decide) rfl rfl rfl (Nat.le_of_ble_eq_true rfl) (Nat.le_of_ble_eq_true rfl) dX8_init_12 (fun H K1 hK1 hl1 w => ?_)
  refine cb_put C w hz hl1 rfl inlX8 tyX8 tyX8_ok nmX8 3 (by decide) (inr_5 (List.mem_of_getElem? (i := 5) rfl)) rfl (ty := tyX8 3) (tyX8_ok 3 (by decide)) rfl rfl (Nat.le_of_ble_eq_true rfl) dX8_init_14 (fun H locs w => ?_)
  have w : ck_W D cy b (.inr (8, [.int 0, .int 0, .int 2, .ref (b + 1), .null, .null, .null, .null, .null, .null, .null, .null, .null, .null, .null, .null, .null, .null, .null, .null, .int 0, .int 0, .null, .null, .null, .int 0]) :: K1) s H locs := w
  refine lv_aload_n hx hb dX8_init_17 rfl (lv_at hl 0 rfl) ?_
  refine lv_bipush (v := 8) hx hb dX8_init_18 (by decide) ?_
  refine cb_newa (N' := 8) (a := b + 2) (cells1 := 2) (slots1 := 16) C w hl1 (by decide) (by decide) (by decide) rfl rfl rfl (Nat.le_of_ble_eq_true rfl) (Nat.le_of_ble_eq_true rfl) dX8_init_20 (fun H K2 hK2 hl2 w => ?_)
  refine cb_put C w hz hl2 rfl inlX8 tyX8 tyX8_ok nmX8 4 (by decide) (inr_5 (List.mem_of_getElem? (i := 6) rfl)) rfl (ty := tyX8 4) (tyX8_ok 4 (by decide)) rfl rfl (Nat.le_of_ble_eq_true rfl) dX8_init_22 (fun H locs w => ?_)
  have w : ck_W D cy b (.inr (8, [.int 0, .int 0, .int 2, .ref (b + 1), .ref (b + 2), .null, .null, .null, .null, .null, .null, .null, .null, .null, .null, .null, .null, .null, .null, .null, .int 0, .int 0, .null, .null, .null, .int 0]) :: K2) s H locs := w
  refine lv_aload_n hx hb dX8_init_25 rfl (lv_at hl 0 rfl) ?_
  refine lv_bipush (v := 12) hx hb dX8_init_26 (by decide) ?_
  refine cb_newa (N' := 12) (a := b + 3) (cells1 := 3) (slots1 := 28) C w hl2 (by decide) (by decide) (by decide) rfl rfl rfl (Nat.le_of_ble_eq_true rfl) (Nat.le_of_ble_eq_true rfl) dX8_init_28 (fun H K3 hK3 hl3 w => ?_)
  refine cb_put C w hz hl3 rfl inlX8 tyX8 tyX8_ok nmX8 5 (by decide) (inr_5 (List.mem_of_getElem? (i := 7) rfl)) rfl (ty := tyX8 5) (tyX8_ok 5 (by decide)) rfl rfl (Nat.le_of_ble_eq_true rfl) dX8_init_30 (fun H locs w => ?_)
  have w : ck_W D cy b (.inr (8, [.int 0, .int 0, .int 2, .ref (b + 1), .ref (b + 2), .ref (b + 3), .null, .null, .null, .null, .null, .null, .null, .null, .null, .null, .null, .null, .null, .null, .int 0, .int 0, .null, .null, .null, .int 0]) :: K3) s H locs := w
  refine lv_aload_n hx hb dX8_init_33 rfl (lv_at hl 0 rfl) ?_
  refine lv_bipush (v := 12) hx hb dX8_init_34 (by decide) ?_
  refine cb_newa (N' := 12) (a := b + 4) (cells1 := 4) (slots1 := 40) C w hl3 (by decide) (by decide) (by decide) rfl rfl rfl (Nat.le_of_ble_eq_true rfl) (Nat.le_of_ble_eq_true rfl) dX8_init_36 (fun H K4 hK4 hl4 w => ?_)
  refine cb_put C w hz hl4 rfl inlX8 tyX8 tyX8_ok nmX8 6 (by decide) (inr_5 (List.mem_of_getElem? (i := 8) rfl)) rfl (ty := tyX8 6) (tyX8_ok 6 (by decide)) rfl rfl (Nat.le_of_ble_eq_true rfl) dX8_init_38 (fun H locs w => ?_)
  have w : ck_W D cy b (.inr (8, [.int 0, .int 0, .int 2, .ref (b + 1), .ref (b + 2), .ref (b + 3), .ref (b + 4), .null, .null, .null, .null, .null, .null, .null, .null, .null, .null, .null, .null, .null, .int 0, .int 0, .null, .null, .null, .int 0]) :: K4) s H locs := w
  refine lv_aload_n hx hb dX8_init_41 rfl (lv_at hl 0 rfl) ?_
  refine lv_bipush (v := 12) hx hb dX8_init_42 (by decide) ?_
  refine cb_newa (N' := 12) (a := b + 5) (cells1 := 5) (slots1 := 52) C w hl4 (by decide) (by decide) (by decide) rfl rfl rfl (Nat.le_of_ble_eq_true rfl) (Nat.le_of_ble_eq_true rfl) dX8_init_44 (fun H K5 hK5 hl5 w => ?_)
  refine cb_put C w hz hl5 rfl inlX8 tyX8 tyX8_ok nmX8 7 (by decide) (inr_5 (List.mem_of_getElem? (i := 9) rfl)) rfl (ty := tyX8 7) (tyX8_ok 7 (by decide)) rfl rfl (Nat.le_of_ble_eq_true rfl) dX8_init_46 (fun H locs w => ?_)
  have w : ck_W D cy b (.inr (8, [.int 0, .int 0, .int 2, .ref (b + 1), .ref (b + 2), .ref (b + 3), .ref (b + 4), .ref (b + 5), .null, .null, .null, .null, .null, .null, .null, .null, .null, .null, .null, .null, .int 0, .int 0, .null, .null, .null, .int 0]) :: K5) s H locs := w
  refine lv_aload_n hx hb dX8_init_49 rfl (lv_at hl 0 rfl) ?_
  refine lv_bipush (v := 96) hx hb dX8_init_50 (by decide) ?_
  refine cb_newa (N' := 96) (a := b + 6) (cells1 := 6) (slots1 := 148) C w hl5 (by decide) (by decide) (by decide) rfl rfl rfl (Nat.le_of_ble_eq_true rfl) (Nat.le_of_ble_eq_true rfl) dX8_init_52 (fun H K6 hK6 hl6 w => ?_)
  refine cb_put C w hz hl6 rfl inlX8 tyX8 tyX8_ok nmX8 8 (by decide) (inr_5 (List.mem_of_getElem? (i := 10) rfl)) rfl (ty := tyX8 8) (tyX8_ok 8 (by decide)) rfl rfl (Nat.le_of_ble_eq_true rfl) dX8_init_54 (fun H locs w => ?_)
  have w : ck_W D cy b (.inr (8, [.int 0, .int 0, .int 2, .ref (b + 1), .ref (b + 2), .ref (b + 3), .ref (b + 4), .ref (b + 5), .ref (b + 6), .null, .null, .null, .null, .null, .null, .null, .null, .null, .null, .null, .int 0, .int 0, .null, .null, .null, .int 0]) :: K6) s H locs := w
  refine lv_aload_n hx hb dX8_init_57 rfl (lv_at hl 0 rfl) ?_
  refine lv_bipush (v := 96) hx hb dX8_init_58 (by decide) ?_
  refine cb_newa (N' := 96) (a := b + 7) (cells1 := 7) (slots1 := 244) C w hl6 (by decide) (by decide) (by decide) rfl rfl rfl (Nat.le_of_ble_eq_true rfl) (Nat.le_of_ble_eq_true rfl) dX8_init_60 (fun H K7 hK7 hl7 w => ?_)
  refine cb_put C w hz hl7 rfl inlX8 tyX8 tyX8_ok nmX8 9 (by decide) (inr_5 (List.mem_of_getElem? (i := 11) rfl)) rfl (ty := tyX8 9) (tyX8_ok 9 (by decide)) rfl rfl (Nat.le_of_ble_eq_true rfl) dX8_init_62 (fun H locs w => ?_)
  have w : ck_W D cy b (.inr (8, [.int 0, .int 0, .int 2, .ref (b + 1), .ref (b + 2), .ref (b + 3), .ref (b + 4), .ref (b + 5), .ref (b + 6), .ref (b + 7), .null, .null, .null, .null, .null, .null, .null, .null, .null, .null, .int 0, .int 0, .null, .null, .null, .int 0]) :: K7) s H locs := w
  refine lv_aload_n hx hb dX8_init_65 rfl (lv_at hl 0 rfl) ?_
  refine lv_sipush (v := 6912) hx hb dX8_init_66 (by decide) ?_
  refine cb_newz (N' := 6912) (a := b + 8) (cells1 := 8) (slots1 := 7156) C w hl7 (by decide) (by decide) (by decide) rfl rfl rfl (Nat.le_of_ble_eq_true rfl) (Nat.le_of_ble_eq_true rfl) dX8_init_69 (fun H K8 hK8 hl8 w => ?_)
  refine cb_put C w hz hl8 rfl inlX8 tyX8 tyX8_ok nmX8 10 (by decide) (inr_5 (List.mem_of_getElem? (i := 13) rfl)) rfl (ty := tyX8 10) (tyX8_ok 10 (by decide)) rfl rfl (Nat.le_of_ble_eq_true rfl) dX8_init_71 (fun H locs w => ?_)
  have w : ck_W D cy b (.inr (8, [.int 0, .int 0, .int 2, .ref (b + 1), .ref (b + 2), .ref (b + 3), .ref (b + 4), .ref (b + 5), .ref (b + 6), .ref (b + 7), .ref (b + 8), .null, .null, .null, .null, .null, .null, .null, .null, .null, .int 0, .int 0, .null, .null, .null, .int 0]) :: K8) s H locs := w
  refine lv_aload_n hx hb dX8_init_74 rfl (lv_at hl 0 rfl) ?_
  refine lv_sipush (v := 144) hx hb dX8_init_75 (by decide) ?_
  refine cb_newz (N' := 144) (a := b + 9) (cells1 := 9) (slots1 := 7300) C w hl8 (by decide) (by decide) (by decide) rfl rfl rfl (Nat.le_of_ble_eq_true rfl) (Nat.le_of_ble_eq_true rfl) dX8_init_78 (fun H K9 hK9 hl9 w => ?_)
  refine cb_put C w hz hl9 rfl inlX8 tyX8 tyX8_ok nmX8 11 (by decide) (inr_5 (List.mem_of_getElem? (i := 14) rfl)) rfl (ty := tyX8 11) (tyX8_ok 11 (by decide)) rfl rfl (Nat.le_of_ble_eq_true rfl) dX8_init_80 (fun H locs w => ?_)
  have w : ck_W D cy b (.inr (8, [.int 0, .int 0, .int 2, .ref (b + 1), .ref (b + 2), .ref (b + 3), .ref (b + 4), .ref (b + 5), .ref (b + 6), .ref (b + 7), .ref (b + 8), .ref (b + 9), .null, .null, .null, .null, .null, .null, .null, .null, .int 0, .int 0, .null, .null, .null, .int 0]) :: K9) s H locs := w
  refine lv_aload_n hx hb dX8_init_83 rfl (lv_at hl 0 rfl) ?_
  refine lv_bipush (v := 16) hx hb dX8_init_84 (by decide) ?_
  refine cb_newz (N' := 16) (a := b + 10) (cells1 := 10) (slots1 := 7316) C w hl9 (by decide) (by decide) (by decide) rfl rfl rfl (Nat.le_of_ble_eq_true rfl) (Nat.le_of_ble_eq_true rfl) dX8_init_86 (fun H K10 hK10 hl10 w => ?_)
  have hc10 : K10[9]? = some (.inl (cy 1, 16, .inl (fun _ => 0))) := by rw [hK10, List.getElem?_append_right (Nat.le_of_eq hl9), hl9]; rfl
  refine cb_put C w hz hl10 rfl inlX8 tyX8 tyX8_ok nmX8 12 (by decide) (inr_5 (List.mem_of_getElem? (i := 15) rfl)) rfl (ty := tyX8 12) (tyX8_ok 12 (by decide)) rfl rfl (Nat.le_of_ble_eq_true rfl) dX8_init_88 (fun H locs w => ?_)
  have w : ck_W D cy b (.inr (8, [.int 0, .int 0, .int 2, .ref (b + 1), .ref (b + 2), .ref (b + 3), .ref (b + 4), .ref (b + 5), .ref (b + 6), .ref (b + 7), .ref (b + 8), .ref (b + 9), .ref (b + 10), .null, .null, .null, .null, .null, .null, .null, .int 0, .int 0, .null, .null, .null, .int 0]) :: K10) s H locs := w
  refine lv_aload_n hx hb dX8_init_91 rfl (lv_at hl 0 rfl) ?_
  refine lv_iconst (v := 4) hx hb dX8_init_92 (by decide) ?_
  refine cb_newa (N' := 4) (a := b + 11) (cells1 := 11) (slots1 := 7320) C w hl10 (by decide) (by decide) (by decide) rfl rfl rfl (Nat.le_of_ble_eq_true rfl) (Nat.le_of_ble_eq_true rfl) dX8_init_93 (fun H K11 hK11 hl11 w => ?_)
  have hd11_9 : K11[9]? = some (.inl (cy 1, 16, .inl (fun _ => 0))) := by rw [hK11, List.getElem?_append_left (by rw [hl10]; decide)]; exact hc10
  have hc11 : K11[10]? = some (.inl (cy 0, 4, .inl (fun _ => 0))) := by rw [hK11, List.getElem?_append_right (Nat.le_of_eq hl10), hl10]; rfl
  refine cb_put C w hz hl11 rfl inlX8 tyX8 tyX8_ok nmX8 13 (by decide) (inr_5 (List.mem_of_getElem? (i := 16) rfl)) rfl (ty := tyX8 13) (tyX8_ok 13 (by decide)) rfl rfl (Nat.le_of_ble_eq_true rfl) dX8_init_95 (fun H locs w => ?_)
  have w : ck_W D cy b (.inr (8, [.int 0, .int 0, .int 2, .ref (b + 1), .ref (b + 2), .ref (b + 3), .ref (b + 4), .ref (b + 5), .ref (b + 6), .ref (b + 7), .ref (b + 8), .ref (b + 9), .ref (b + 10), .ref (b + 11), .null, .null, .null, .null, .null, .null, .int 0, .int 0, .null, .null, .null, .int 0]) :: K11) s H locs := w
  refine lv_aload_n hx hb dX8_init_98 rfl (lv_at hl 0 rfl) ?_
  refine lv_bipush (v := 12) hx hb dX8_init_99 (by decide) ?_
  refine cb_newa (N' := 12) (a := b + 12) (cells1 := 12) (slots1 := 7332) C w hl11 (by decide) (by decide) (by decide) rfl rfl rfl (Nat.le_of_ble_eq_true rfl) (Nat.le_of_ble_eq_true rfl) dX8_init_101 (fun H K12 hK12 hl12 w => ?_)
  have hd12_9 : K12[9]? = some (.inl (cy 1, 16, .inl (fun _ => 0))) := by rw [hK12, List.getElem?_append_left (by rw [hl11]; decide)]; exact hd11_9
  have hd12_10 : K12[10]? = some (.inl (cy 0, 4, .inl (fun _ => 0))) := by rw [hK12, List.getElem?_append_left (by rw [hl11]; decide)]; exact hc11
  refine cb_put C w hz hl12 rfl inlX8 tyX8 tyX8_ok nmX8 14 (by decide) (inr_5 (List.mem_of_getElem? (i := 17) rfl)) rfl (ty := tyX8 14) (tyX8_ok 14 (by decide)) rfl rfl (Nat.le_of_ble_eq_true rfl) dX8_init_103 (fun H locs w => ?_)
  have w : ck_W D cy b (.inr (8, [.int 0, .int 0, .int 2, .ref (b + 1), .ref (b + 2), .ref (b + 3), .ref (b + 4), .ref (b + 5), .ref (b + 6), .ref (b + 7), .ref (b + 8), .ref (b + 9), .ref (b + 10), .ref (b + 11), .ref (b + 12), .null, .null, .null, .null, .null, .int 0, .int 0, .null, .null, .null, .int 0]) :: K12) s H locs := w
  refine lv_aload_n hx hb dX8_init_106 rfl (lv_at hl 0 rfl) ?_
  refine lv_bipush (v := 12) hx hb dX8_init_107 (by decide) ?_
  refine cb_newa (N' := 12) (a := b + 13) (cells1 := 13) (slots1 := 7344) C w hl12 (by decide) (by decide) (by decide) rfl rfl rfl (Nat.le_of_ble_eq_true rfl) (Nat.le_of_ble_eq_true rfl) dX8_init_109 (fun H K13 hK13 hl13 w => ?_)
  have hd13_9 : K13[9]? = some (.inl (cy 1, 16, .inl (fun _ => 0))) := by rw [hK13, List.getElem?_append_left (by rw [hl12]; decide)]; exact hd12_9
  have hd13_10 : K13[10]? = some (.inl (cy 0, 4, .inl (fun _ => 0))) := by rw [hK13, List.getElem?_append_left (by rw [hl12]; decide)]; exact hd12_10
  refine cb_put C w hz hl13 rfl inlX8 tyX8 tyX8_ok nmX8 15 (by decide) (inr_5 (List.mem_of_getElem? (i := 18) rfl)) rfl (ty := tyX8 15) (tyX8_ok 15 (by decide)) rfl rfl (Nat.le_of_ble_eq_true rfl) dX8_init_111 (fun H locs w => ?_)
  have w : ck_W D cy b (.inr (8, [.int 0, .int 0, .int 2, .ref (b + 1), .ref (b + 2), .ref (b + 3), .ref (b + 4), .ref (b + 5), .ref (b + 6), .ref (b + 7), .ref (b + 8), .ref (b + 9), .ref (b + 10), .ref (b + 11), .ref (b + 12), .ref (b + 13), .null, .null, .null, .null, .int 0, .int 0, .null, .null, .null, .int 0]) :: K13) s H locs := w
  refine lv_aload_n hx hb dX8_init_114 rfl (lv_at hl 0 rfl) ?_
  refine lv_bipush (v := 12) hx hb dX8_init_115 (by decide) ?_
  refine cb_newa (N' := 12) (a := b + 14) (cells1 := 14) (slots1 := 7356) C w hl13 (by decide) (by decide) (by decide) rfl rfl rfl (Nat.le_of_ble_eq_true rfl) (Nat.le_of_ble_eq_true rfl) dX8_init_117 (fun H K14 hK14 hl14 w => ?_)
  have hd14_9 : K14[9]? = some (.inl (cy 1, 16, .inl (fun _ => 0))) := by rw [hK14, List.getElem?_append_left (by rw [hl13]; decide)]; exact hd13_9
  have hd14_10 : K14[10]? = some (.inl (cy 0, 4, .inl (fun _ => 0))) := by rw [hK14, List.getElem?_append_left (by rw [hl13]; decide)]; exact hd13_10
  refine cb_put C w hz hl14 rfl inlX8 tyX8 tyX8_ok nmX8 16 (by decide) (inr_5 (List.mem_of_getElem? (i := 19) rfl)) rfl (ty := tyX8 16) (tyX8_ok 16 (by decide)) rfl rfl (Nat.le_of_ble_eq_true rfl) dX8_init_119 (fun H locs w => ?_)
  have w : ck_W D cy b (.inr (8, [.int 0, .int 0, .int 2, .ref (b + 1), .ref (b + 2), .ref (b + 3), .ref (b + 4), .ref (b + 5), .ref (b + 6), .ref (b + 7), .ref (b + 8), .ref (b + 9), .ref (b + 10), .ref (b + 11), .ref (b + 12), .ref (b + 13), .ref (b + 14), .null, .null, .null, .int 0, .int 0, .null, .null, .null, .int 0]) :: K14) s H locs := w
  refine lv_aload_n hx hb dX8_init_122 rfl (lv_at hl 0 rfl) ?_
  refine lv_bipush (v := 12) hx hb dX8_init_123 (by decide) ?_
  refine cb_newa (N' := 12) (a := b + 15) (cells1 := 15) (slots1 := 7368) C w hl14 (by decide) (by decide) (by decide) rfl rfl rfl (Nat.le_of_ble_eq_true rfl) (Nat.le_of_ble_eq_true rfl) dX8_init_125 (fun H K15 hK15 hl15 w => ?_)
  have hd15_9 : K15[9]? = some (.inl (cy 1, 16, .inl (fun _ => 0))) := by rw [hK15, List.getElem?_append_left (by rw [hl14]; decide)]; exact hd14_9
  have hd15_10 : K15[10]? = some (.inl (cy 0, 4, .inl (fun _ => 0))) := by rw [hK15, List.getElem?_append_left (by rw [hl14]; decide)]; exact hd14_10
  refine cb_put C w hz hl15 rfl inlX8 tyX8 tyX8_ok nmX8 17 (by decide) (inr_5 (List.mem_of_getElem? (i := 20) rfl)) rfl (ty := tyX8 17) (tyX8_ok 17 (by decide)) rfl rfl (Nat.le_of_ble_eq_true rfl) dX8_init_127 (fun H locs w => ?_)
  have w : ck_W D cy b (.inr (8, [.int 0, .int 0, .int 2, .ref (b + 1), .ref (b + 2), .ref (b + 3), .ref (b + 4), .ref (b + 5), .ref (b + 6), .ref (b + 7), .ref (b + 8), .ref (b + 9), .ref (b + 10), .ref (b + 11), .ref (b + 12), .ref (b + 13), .ref (b + 14), .ref (b + 15), .null, .null, .int 0, .int 0, .null, .null, .null, .int 0]) :: K15) s H locs := w
  refine lv_aload_n hx hb dX8_init_130 rfl (lv_at hl 0 rfl) ?_
  refine lv_bipush (v := 12) hx hb dX8_init_131 (by decide) ?_
  refine cb_newa (N' := 12) (a := b + 16) (cells1 := 16) (slots1 := 7380) C w hl15 (by decide) (by decide) (by decide) rfl rfl rfl (Nat.le_of_ble_eq_true rfl) (Nat.le_of_ble_eq_true rfl) dX8_init_133 (fun H K16 hK16 hl16 w => ?_)
  have hd16_9 : K16[9]? = some (.inl (cy 1, 16, .inl (fun _ => 0))) := by rw [hK16, List.getElem?_append_left (by rw [hl15]; decide)]; exact hd15_9
  have hd16_10 : K16[10]? = some (.inl (cy 0, 4, .inl (fun _ => 0))) := by rw [hK16, List.getElem?_append_left (by rw [hl15]; decide)]; exact hd15_10
  refine cb_put C w hz hl16 rfl inlX8 tyX8 tyX8_ok nmX8 18 (by decide) (inr_5 (List.mem_of_getElem? (i := 21) rfl)) rfl (ty := tyX8 18) (tyX8_ok 18 (by decide)) rfl rfl (Nat.le_of_ble_eq_true rfl) dX8_init_135 (fun H locs w => ?_)
  have w : ck_W D cy b (.inr (8, [.int 0, .int 0, .int 2, .ref (b + 1), .ref (b + 2), .ref (b + 3), .ref (b + 4), .ref (b + 5), .ref (b + 6), .ref (b + 7), .ref (b + 8), .ref (b + 9), .ref (b + 10), .ref (b + 11), .ref (b + 12), .ref (b + 13), .ref (b + 14), .ref (b + 15), .ref (b + 16), .null, .int 0, .int 0, .null, .null, .null, .int 0]) :: K16) s H locs := w
  refine lv_aload_n hx hb dX8_init_138 rfl (lv_at hl 0 rfl) ?_
  refine lv_bipush (v := 12) hx hb dX8_init_139 (by decide) ?_
  refine cb_newa (N' := 12) (a := b + 17) (cells1 := 17) (slots1 := 7392) C w hl16 (by decide) (by decide) (by decide) rfl rfl rfl (Nat.le_of_ble_eq_true rfl) (Nat.le_of_ble_eq_true rfl) dX8_init_141 (fun H K17 hK17 hl17 w => ?_)
  have hd17_9 : K17[9]? = some (.inl (cy 1, 16, .inl (fun _ => 0))) := by rw [hK17, List.getElem?_append_left (by rw [hl16]; decide)]; exact hd16_9
  have hd17_10 : K17[10]? = some (.inl (cy 0, 4, .inl (fun _ => 0))) := by rw [hK17, List.getElem?_append_left (by rw [hl16]; decide)]; exact hd16_10
  refine cb_put C w hz hl17 rfl inlX8 tyX8 tyX8_ok nmX8 19 (by decide) (inr_5 (List.mem_of_getElem? (i := 22) rfl)) rfl (ty := tyX8 19) (tyX8_ok 19 (by decide)) rfl rfl (Nat.le_of_ble_eq_true rfl) dX8_init_143 (fun H locs w => ?_)
  have w : ck_W D cy b (.inr (8, [.int 0, .int 0, .int 2, .ref (b + 1), .ref (b + 2), .ref (b + 3), .ref (b + 4), .ref (b + 5), .ref (b + 6), .ref (b + 7), .ref (b + 8), .ref (b + 9), .ref (b + 10), .ref (b + 11), .ref (b + 12), .ref (b + 13), .ref (b + 14), .ref (b + 15), .ref (b + 16), .ref (b + 17), .int 0, .int 0, .null, .null, .null, .int 0]) :: K17) s H locs := w
  refine lv_aload_n hx hb dX8_init_146 rfl (lv_at hl 0 rfl) ?_
  refine lv_sipush (v := 576) hx hb dX8_init_147 (by decide) ?_
  refine cb_newz (N' := 576) (a := b + 18) (cells1 := 18) (slots1 := 7968) C w hl17 (by decide) (by decide) (by decide) rfl rfl rfl (Nat.le_of_ble_eq_true rfl) (Nat.le_of_ble_eq_true rfl) dX8_init_150 (fun H K18 hK18 hl18 w => ?_)
  have hd18_9 : K18[9]? = some (.inl (cy 1, 16, .inl (fun _ => 0))) := by rw [hK18, List.getElem?_append_left (by rw [hl17]; decide)]; exact hd17_9
  have hd18_10 : K18[10]? = some (.inl (cy 0, 4, .inl (fun _ => 0))) := by rw [hK18, List.getElem?_append_left (by rw [hl17]; decide)]; exact hd17_10
  refine cb_put C w hz hl18 rfl inlX8 tyX8 tyX8_ok nmX8 22 (by decide) (inr_5 (List.mem_of_getElem? (i := 23) rfl)) rfl (ty := tyX8 22) (tyX8_ok 22 (by decide)) rfl rfl (Nat.le_of_ble_eq_true rfl) dX8_init_152 (fun H locs w => ?_)
  have w : ck_W D cy b (.inr (8, [.int 0, .int 0, .int 2, .ref (b + 1), .ref (b + 2), .ref (b + 3), .ref (b + 4), .ref (b + 5), .ref (b + 6), .ref (b + 7), .ref (b + 8), .ref (b + 9), .ref (b + 10), .ref (b + 11), .ref (b + 12), .ref (b + 13), .ref (b + 14), .ref (b + 15), .ref (b + 16), .ref (b + 17), .int 0, .int 0, .ref (b + 18), .null, .null, .int 0]) :: K18) s H locs := w
  refine lv_aload_n hx hb dX8_init_155 rfl (lv_at hl 0 rfl) ?_
  refine lv_sipush (v := 576) hx hb dX8_init_156 (by decide) ?_
  refine cb_newa (N' := 576) (a := b + 19) (cells1 := 19) (slots1 := 8544) C w hl18 (by decide) (by decide) (by decide) rfl rfl rfl (Nat.le_of_ble_eq_true rfl) (Nat.le_of_ble_eq_true rfl) dX8_init_159 (fun H K19 hK19 hl19 w => ?_)
  have hd19_9 : K19[9]? = some (.inl (cy 1, 16, .inl (fun _ => 0))) := by rw [hK19, List.getElem?_append_left (by rw [hl18]; decide)]; exact hd18_9
  have hd19_10 : K19[10]? = some (.inl (cy 0, 4, .inl (fun _ => 0))) := by rw [hK19, List.getElem?_append_left (by rw [hl18]; decide)]; exact hd18_10
  refine cb_put C w hz hl19 rfl inlX8 tyX8 tyX8_ok nmX8 23 (by decide) (inr_6 (List.mem_of_getElem? (i := 0) rfl)) rfl (ty := tyX8 23) (tyX8_ok 23 (by decide)) rfl rfl (Nat.le_of_ble_eq_true rfl) dX8_init_161 (fun H locs w => ?_)
  have w : ck_W D cy b (.inr (8, [.int 0, .int 0, .int 2, .ref (b + 1), .ref (b + 2), .ref (b + 3), .ref (b + 4), .ref (b + 5), .ref (b + 6), .ref (b + 7), .ref (b + 8), .ref (b + 9), .ref (b + 10), .ref (b + 11), .ref (b + 12), .ref (b + 13), .ref (b + 14), .ref (b + 15), .ref (b + 16), .ref (b + 17), .int 0, .int 0, .ref (b + 18), .ref (b + 19), .null, .int 0]) :: K19) s H locs := w
  refine lv_aload_n hx hb dX8_init_164 rfl (lv_at hl 0 rfl) ?_
  refine lv_sipush (v := 576) hx hb dX8_init_165 (by decide) ?_
  refine cb_newa (N' := 576) (a := b + 20) (cells1 := 20) (slots1 := 9120) C w hl19 (by decide) (by decide) (by decide) rfl rfl rfl (Nat.le_of_ble_eq_true rfl) (Nat.le_of_ble_eq_true rfl) dX8_init_168 (fun H K20 hK20 hl20 w => ?_)
  have hd20_9 : K20[9]? = some (.inl (cy 1, 16, .inl (fun _ => 0))) := by rw [hK20, List.getElem?_append_left (by rw [hl19]; decide)]; exact hd19_9
  have hd20_10 : K20[10]? = some (.inl (cy 0, 4, .inl (fun _ => 0))) := by rw [hK20, List.getElem?_append_left (by rw [hl19]; decide)]; exact hd19_10
  refine cb_put C w hz hl20 rfl inlX8 tyX8 tyX8_ok nmX8 24 (by decide) (inr_6 (List.mem_of_getElem? (i := 1) rfl)) rfl (ty := tyX8 24) (tyX8_ok 24 (by decide)) rfl rfl (Nat.le_of_ble_eq_true rfl) dX8_init_170 (fun H locs w => ?_)
  have w : ck_W D cy b (.inr (8, [.int 0, .int 0, .int 2, .ref (b + 1), .ref (b + 2), .ref (b + 3), .ref (b + 4), .ref (b + 5), .ref (b + 6), .ref (b + 7), .ref (b + 8), .ref (b + 9), .ref (b + 10), .ref (b + 11), .ref (b + 12), .ref (b + 13), .ref (b + 14), .ref (b + 15), .ref (b + 16), .ref (b + 17), .int 0, .int 0, .ref (b + 18), .ref (b + 19), .ref (b + 20), .int 0]) :: K20) s H locs := w
  refine lv_iconst (v := 0) hx hb dX8_init_173 (by decide) ?_
  refine lv_istore_n (lv' := [(1, .int 0), (0, .ref b)]) hx hb dX8_init_174 rfl hl (by decide) rfl (fun ls hl => ?_)
  refine lv_iload_n hx hb dX8_init_175 rfl (lv_at hl 0 rfl) ?_
  refine lv_iconst (v := 4) hx hb dX8_init_176 (by decide) ?_
  refine lv_icmp_ge (tgt := 226) hx hb dX8_init_177 (by decide) (fun q => absurd q (by decide)) (fun _ => ?_)
  refine lv_aload_n hx hb dX8_init_180 rfl (lv_at hl 1 rfl) ?_
  refine cb_get (v := .ref (b + 11)) C w rfl inlX8 13 (by decide) (inr_5 (List.mem_of_getElem? (i := 16) rfl)) rfl dX8_init_181 ?_
  refine lv_iload_n hx hb dX8_init_184 rfl (lv_at hl 0 rfl) ?_
  refine lv_iload_n hx hb dX8_init_185 rfl (lv_at hl 0 rfl) ?_
  refine cb_iast (i := 10) (a := b + 11) (qn := 0) C w hz hl20 hd20_10 rfl (by decide) (by unfold vp_in; decide) dX8_init_186 (fun H locs K21 hK21 hl21 hi21 ho21 w => ?_)
  have hb21_9 := (ho21 9 (by decide)).trans hd20_9
  refine lv_iconst (v := 0) hx hb dX8_init_187 (by decide) ?_
  refine lv_istore_n (lv' := [(2, .int 0), (1, .int 0), (0, .ref b)]) hx hb dX8_init_188 rfl hl (by decide) rfl (fun ls hl => ?_)
  refine lv_iload_n hx hb dX8_init_189 rfl (lv_at hl 0 rfl) ?_
  refine lv_iconst (v := 4) hx hb dX8_init_190 (by decide) ?_
  refine lv_icmp_ge (tgt := 220) hx hb dX8_init_191 (by decide) (fun q => absurd q (by decide)) (fun _ => ?_)
  refine lv_aload_n hx hb dX8_init_194 rfl (lv_at hl 2 rfl) ?_
  refine cb_get (v := .ref (b + 10)) C w rfl inlX8 12 (by decide) (inr_5 (List.mem_of_getElem? (i := 15) rfl)) rfl dX8_init_195 ?_
  refine lv_iconst (v := 4) hx hb dX8_init_198 (by decide) ?_
  refine lv_iload_n hx hb dX8_init_199 rfl (lv_at hl 1 rfl) ?_
  refine lv_imul hx hb dX8_init_200 ?_
  refine lv_topi (fun z1 ez1 => ?_)
  obtain rfl : z1 = (0) := ez1.trans (by decide)
  refine lv_iload_n hx hb dX8_init_201 rfl (lv_at hl 0 rfl) ?_
  refine lv_iadd hx hb dX8_init_202 ?_
  refine lv_topi (fun z2 ez2 => ?_)
  obtain rfl : z2 = (0) := ez2.trans (by decide)
  refine lv_iload_n hx hb dX8_init_203 rfl (lv_at hl 1 rfl) ?_
  refine lv_iload_n hx hb dX8_init_204 rfl (lv_at hl 0 rfl) ?_
  refine lv_icmp_eq (tgt := 212) hx hb dX8_init_205 (by decide) (fun _ => ?_) (fun q => absurd (by decide) q)
  refine lv_iconst (v := 0) hx hb dX8_init_212 (by decide) ?_
  refine cb_zast (i := 9) (a := b + 10) (qn := 0) C w hz hl21 hb21_9 rfl (by decide) (by unfold vp_in; decide) rfl dX8_init_213 (fun H locs K22 hK22 hl22 hi22 ho22 w => ?_)
  have hb22_10 := (ho22 10 (by decide)).trans hi21
  refine lv_iinc (v := 1) (lv' := [(2, .int 1), (1, .int 0), (0, .ref b)]) hx hb dX8_init_214 hl (k := 0) rfl (by decide) (by decide) rfl (fun ls hl => ?_)
  refine lv_goto (tgt := 189) hx hb dX8_init_217 (by decide) ?_
  refine lv_iload_n hx hb dX8_init_189 rfl (lv_at hl 0 rfl) ?_
  refine lv_iconst (v := 4) hx hb dX8_init_190 (by decide) ?_
  refine lv_icmp_ge (tgt := 220) hx hb dX8_init_191 (by decide) (fun q => absurd q (by decide)) (fun _ => ?_)
  refine lv_aload_n hx hb dX8_init_194 rfl (lv_at hl 2 rfl) ?_
  refine cb_get (v := .ref (b + 10)) C w rfl inlX8 12 (by decide) (inr_5 (List.mem_of_getElem? (i := 15) rfl)) rfl dX8_init_195 ?_
  refine lv_iconst (v := 4) hx hb dX8_init_198 (by decide) ?_
  refine lv_iload_n hx hb dX8_init_199 rfl (lv_at hl 1 rfl) ?_
  refine lv_imul hx hb dX8_init_200 ?_
  refine lv_topi (fun z3 ez3 => ?_)
  obtain rfl : z3 = (0) := ez3.trans (by decide)
  refine lv_iload_n hx hb dX8_init_201 rfl (lv_at hl 0 rfl) ?_
  refine lv_iadd hx hb dX8_init_202 ?_
  refine lv_topi (fun z4 ez4 => ?_)
  obtain rfl : z4 = (1) := ez4.trans (by decide)
  refine lv_iload_n hx hb dX8_init_203 rfl (lv_at hl 1 rfl) ?_
  refine lv_iload_n hx hb dX8_init_204 rfl (lv_at hl 0 rfl) ?_
  refine lv_icmp_eq (tgt := 212) hx hb dX8_init_205 (by decide) (fun q => absurd q (by decide)) (fun _ => ?_)
  refine lv_iconst (v := 1) hx hb dX8_init_208 (by decide) ?_
  refine lv_goto (tgt := 213) hx hb dX8_init_209 (by decide) ?_
  refine cb_zast (i := 9) (a := b + 10) (qn := 1) C w hz hl22 hi22 rfl (by decide) (by unfold vp_in; decide) rfl dX8_init_213 (fun H locs K23 hK23 hl23 hi23 ho23 w => ?_)
  have hb23_10 := (ho23 10 (by decide)).trans hb22_10
  refine lv_iinc (v := 2) (lv' := [(2, .int 2), (1, .int 0), (0, .ref b)]) hx hb dX8_init_214 hl (k := 0) rfl (by decide) (by decide) rfl (fun ls hl => ?_)
  refine lv_goto (tgt := 189) hx hb dX8_init_217 (by decide) ?_
  refine lv_iload_n hx hb dX8_init_189 rfl (lv_at hl 0 rfl) ?_
  refine lv_iconst (v := 4) hx hb dX8_init_190 (by decide) ?_
  refine lv_icmp_ge (tgt := 220) hx hb dX8_init_191 (by decide) (fun q => absurd q (by decide)) (fun _ => ?_)
  refine lv_aload_n hx hb dX8_init_194 rfl (lv_at hl 2 rfl) ?_
  refine cb_get (v := .ref (b + 10)) C w rfl inlX8 12 (by decide) (inr_5 (List.mem_of_getElem? (i := 15) rfl)) rfl dX8_init_195 ?_
  refine lv_iconst (v := 4) hx hb dX8_init_198 (by decide) ?_
  refine lv_iload_n hx hb dX8_init_199 rfl (lv_at hl 1 rfl) ?_
  refine lv_imul hx hb dX8_init_200 ?_
  refine lv_topi (fun z5 ez5 => ?_)
  obtain rfl : z5 = (0) := ez5.trans (by decide)
  refine lv_iload_n hx hb dX8_init_201 rfl (lv_at hl 0 rfl) ?_
  refine lv_iadd hx hb dX8_init_202 ?_
  refine lv_topi (fun z6 ez6 => ?_)
  obtain rfl : z6 = (2) := ez6.trans (by decide)
  refine lv_iload_n hx hb dX8_init_203 rfl (lv_at hl 1 rfl) ?_
  refine lv_iload_n hx hb dX8_init_204 rfl (lv_at hl 0 rfl) ?_
  refine lv_icmp_eq (tgt := 212) hx hb dX8_init_205 (by decide) (fun q => absurd q (by decide)) (fun _ => ?_)
  refine lv_iconst (v := 1) hx hb dX8_init_208 (by decide) ?_
  refine lv_goto (tgt := 213) hx hb dX8_init_209 (by decide) ?_
  refine cb_zast (i := 9) (a := b + 10) (qn := 2) C w hz hl23 hi23 rfl (by decide) (by unfold vp_in; decide) rfl dX8_init_213 (fun H locs K24 hK24 hl24 hi24 ho24 w => ?_)
  have hb24_10 := (ho24 10 (by decide)).trans hb23_10
  refine lv_iinc (v := 3) (lv' := [(2, .int 3), (1, .int 0), (0, .ref b)]) hx hb dX8_init_214 hl (k := 0) rfl (by decide) (by decide) rfl (fun ls hl => ?_)
  refine lv_goto (tgt := 189) hx hb dX8_init_217 (by decide) ?_
  refine lv_iload_n hx hb dX8_init_189 rfl (lv_at hl 0 rfl) ?_
  refine lv_iconst (v := 4) hx hb dX8_init_190 (by decide) ?_
  refine lv_icmp_ge (tgt := 220) hx hb dX8_init_191 (by decide) (fun q => absurd q (by decide)) (fun _ => ?_)
  refine lv_aload_n hx hb dX8_init_194 rfl (lv_at hl 2 rfl) ?_
  refine cb_get (v := .ref (b + 10)) C w rfl inlX8 12 (by decide) (inr_5 (List.mem_of_getElem? (i := 15) rfl)) rfl dX8_init_195 ?_
  refine lv_iconst (v := 4) hx hb dX8_init_198 (by decide) ?_
  refine lv_iload_n hx hb dX8_init_199 rfl (lv_at hl 1 rfl) ?_
  refine lv_imul hx hb dX8_init_200 ?_
  refine lv_topi (fun z7 ez7 => ?_)
  obtain rfl : z7 = (0) := ez7.trans (by decide)
  refine lv_iload_n hx hb dX8_init_201 rfl (lv_at hl 0 rfl) ?_
  refine lv_iadd hx hb dX8_init_202 ?_
  refine lv_topi (fun z8 ez8 => ?_)
  obtain rfl : z8 = (3) := ez8.trans (by decide)
  refine lv_iload_n hx hb dX8_init_203 rfl (lv_at hl 1 rfl) ?_
  refine lv_iload_n hx hb dX8_init_204 rfl (lv_at hl 0 rfl) ?_
  refine lv_icmp_eq (tgt := 212) hx hb dX8_init_205 (by decide) (fun q => absurd q (by decide)) (fun _ => ?_)
  refine lv_iconst (v := 1) hx hb dX8_init_208 (by decide) ?_
  refine lv_goto (tgt := 213) hx hb dX8_init_209 (by decide) ?_
  refine cb_zast (i := 9) (a := b + 10) (qn := 3) C w hz hl24 hi24 rfl (by decide) (by unfold vp_in; decide) rfl dX8_init_213 (fun H locs K25 hK25 hl25 hi25 ho25 w => ?_)
  have hb25_10 := (ho25 10 (by decide)).trans hb24_10
  refine lv_iinc (v := 4) (lv' := [(2, .int 4), (1, .int 0), (0, .ref b)]) hx hb dX8_init_214 hl (k := 0) rfl (by decide) (by decide) rfl (fun ls hl => ?_)
  refine lv_goto (tgt := 189) hx hb dX8_init_217 (by decide) ?_
  refine lv_iload_n hx hb dX8_init_189 rfl (lv_at hl 0 rfl) ?_
  refine lv_iconst (v := 4) hx hb dX8_init_190 (by decide) ?_
  refine lv_icmp_ge (tgt := 220) hx hb dX8_init_191 (by decide) (fun _ => ?_) (fun q => absurd (by decide) q)
  refine lv_iinc (v := 1) (lv' := [(1, .int 1), (2, .int 4), (0, .ref b)]) hx hb dX8_init_220 hl (k := 1) rfl (by decide) (by decide) rfl (fun ls hl => ?_)
  refine lv_goto (tgt := 175) hx hb dX8_init_223 (by decide) ?_
  refine lv_iload_n hx hb dX8_init_175 rfl (lv_at hl 0 rfl) ?_
  refine lv_iconst (v := 4) hx hb dX8_init_176 (by decide) ?_
  refine lv_icmp_ge (tgt := 226) hx hb dX8_init_177 (by decide) (fun q => absurd q (by decide)) (fun _ => ?_)
  refine lv_aload_n hx hb dX8_init_180 rfl (lv_at hl 2 rfl) ?_
  refine cb_get (v := .ref (b + 11)) C w rfl inlX8 13 (by decide) (inr_5 (List.mem_of_getElem? (i := 16) rfl)) rfl dX8_init_181 ?_
  refine lv_iload_n hx hb dX8_init_184 rfl (lv_at hl 0 rfl) ?_
  refine lv_iload_n hx hb dX8_init_185 rfl (lv_at hl 0 rfl) ?_
  refine cb_iast (i := 10) (a := b + 11) (qn := 1) C w hz hl25 hb25_10 rfl (by decide) (by unfold vp_in; decide) dX8_init_186 (fun H locs K26 hK26 hl26 hi26 ho26 w => ?_)
  have hb26_9 := (ho26 9 (by decide)).trans hi25
  refine lv_iconst (v := 0) hx hb dX8_init_187 (by decide) ?_
  refine lv_istore_n (lv' := [(2, .int 0), (1, .int 1), (0, .ref b)]) hx hb dX8_init_188 rfl hl (by decide) rfl (fun ls hl => ?_)
  refine lv_iload_n hx hb dX8_init_189 rfl (lv_at hl 0 rfl) ?_
  refine lv_iconst (v := 4) hx hb dX8_init_190 (by decide) ?_
  refine lv_icmp_ge (tgt := 220) hx hb dX8_init_191 (by decide) (fun q => absurd q (by decide)) (fun _ => ?_)
  refine lv_aload_n hx hb dX8_init_194 rfl (lv_at hl 2 rfl) ?_
  refine cb_get (v := .ref (b + 10)) C w rfl inlX8 12 (by decide) (inr_5 (List.mem_of_getElem? (i := 15) rfl)) rfl dX8_init_195 ?_
  refine lv_iconst (v := 4) hx hb dX8_init_198 (by decide) ?_
  refine lv_iload_n hx hb dX8_init_199 rfl (lv_at hl 1 rfl) ?_
  refine lv_imul hx hb dX8_init_200 ?_
  refine lv_topi (fun z9 ez9 => ?_)
  obtain rfl : z9 = (4) := ez9.trans (by decide)
  refine lv_iload_n hx hb dX8_init_201 rfl (lv_at hl 0 rfl) ?_
  refine lv_iadd hx hb dX8_init_202 ?_
  refine lv_topi (fun z10 ez10 => ?_)
  obtain rfl : z10 = (4) := ez10.trans (by decide)
  refine lv_iload_n hx hb dX8_init_203 rfl (lv_at hl 1 rfl) ?_
  refine lv_iload_n hx hb dX8_init_204 rfl (lv_at hl 0 rfl) ?_
  refine lv_icmp_eq (tgt := 212) hx hb dX8_init_205 (by decide) (fun q => absurd q (by decide)) (fun _ => ?_)
  refine lv_iconst (v := 1) hx hb dX8_init_208 (by decide) ?_
  refine lv_goto (tgt := 213) hx hb dX8_init_209 (by decide) ?_
  refine cb_zast (i := 9) (a := b + 10) (qn := 4) C w hz hl26 hb26_9 rfl (by decide) (by unfold vp_in; decide) rfl dX8_init_213 (fun H locs K27 hK27 hl27 hi27 ho27 w => ?_)
  have hb27_10 := (ho27 10 (by decide)).trans hi26
  refine lv_iinc (v := 1) (lv' := [(2, .int 1), (1, .int 1), (0, .ref b)]) hx hb dX8_init_214 hl (k := 0) rfl (by decide) (by decide) rfl (fun ls hl => ?_)
  refine lv_goto (tgt := 189) hx hb dX8_init_217 (by decide) ?_
  refine lv_iload_n hx hb dX8_init_189 rfl (lv_at hl 0 rfl) ?_
  refine lv_iconst (v := 4) hx hb dX8_init_190 (by decide) ?_
  refine lv_icmp_ge (tgt := 220) hx hb dX8_init_191 (by decide) (fun q => absurd q (by decide)) (fun _ => ?_)
  refine lv_aload_n hx hb dX8_init_194 rfl (lv_at hl 2 rfl) ?_
  refine cb_get (v := .ref (b + 10)) C w rfl inlX8 12 (by decide) (inr_5 (List.mem_of_getElem? (i := 15) rfl)) rfl dX8_init_195 ?_
  refine lv_iconst (v := 4) hx hb dX8_init_198 (by decide) ?_
  refine lv_iload_n hx hb dX8_init_199 rfl (lv_at hl 1 rfl) ?_
  refine lv_imul hx hb dX8_init_200 ?_
  refine lv_topi (fun z11 ez11 => ?_)
  obtain rfl : z11 = (4) := ez11.trans (by decide)
  refine lv_iload_n hx hb dX8_init_201 rfl (lv_at hl 0 rfl) ?_
  refine lv_iadd hx hb dX8_init_202 ?_
  refine lv_topi (fun z12 ez12 => ?_)
  obtain rfl : z12 = (5) := ez12.trans (by decide)
  refine lv_iload_n hx hb dX8_init_203 rfl (lv_at hl 1 rfl) ?_
  refine lv_iload_n hx hb dX8_init_204 rfl (lv_at hl 0 rfl) ?_
  refine lv_icmp_eq (tgt := 212) hx hb dX8_init_205 (by decide) (fun _ => ?_) (fun q => absurd (by decide) q)
  refine lv_iconst (v := 0) hx hb dX8_init_212 (by decide) ?_
  refine cb_zast (i := 9) (a := b + 10) (qn := 5) C w hz hl27 hi27 rfl (by decide) (by unfold vp_in; decide) rfl dX8_init_213 (fun H locs K28 hK28 hl28 hi28 ho28 w => ?_)
  have hb28_10 := (ho28 10 (by decide)).trans hb27_10
  refine lv_iinc (v := 2) (lv' := [(2, .int 2), (1, .int 1), (0, .ref b)]) hx hb dX8_init_214 hl (k := 0) rfl (by decide) (by decide) rfl (fun ls hl => ?_)
  refine lv_goto (tgt := 189) hx hb dX8_init_217 (by decide) ?_
  refine lv_iload_n hx hb dX8_init_189 rfl (lv_at hl 0 rfl) ?_
  refine lv_iconst (v := 4) hx hb dX8_init_190 (by decide) ?_
  refine lv_icmp_ge (tgt := 220) hx hb dX8_init_191 (by decide) (fun q => absurd q (by decide)) (fun _ => ?_)
  refine lv_aload_n hx hb dX8_init_194 rfl (lv_at hl 2 rfl) ?_
  refine cb_get (v := .ref (b + 10)) C w rfl inlX8 12 (by decide) (inr_5 (List.mem_of_getElem? (i := 15) rfl)) rfl dX8_init_195 ?_
  refine lv_iconst (v := 4) hx hb dX8_init_198 (by decide) ?_
  refine lv_iload_n hx hb dX8_init_199 rfl (lv_at hl 1 rfl) ?_
  refine lv_imul hx hb dX8_init_200 ?_
  refine lv_topi (fun z13 ez13 => ?_)
  obtain rfl : z13 = (4) := ez13.trans (by decide)
  refine lv_iload_n hx hb dX8_init_201 rfl (lv_at hl 0 rfl) ?_
  refine lv_iadd hx hb dX8_init_202 ?_
  refine lv_topi (fun z14 ez14 => ?_)
  obtain rfl : z14 = (6) := ez14.trans (by decide)
  refine lv_iload_n hx hb dX8_init_203 rfl (lv_at hl 1 rfl) ?_
  refine lv_iload_n hx hb dX8_init_204 rfl (lv_at hl 0 rfl) ?_
  refine lv_icmp_eq (tgt := 212) hx hb dX8_init_205 (by decide) (fun q => absurd q (by decide)) (fun _ => ?_)
  refine lv_iconst (v := 1) hx hb dX8_init_208 (by decide) ?_
  refine lv_goto (tgt := 213) hx hb dX8_init_209 (by decide) ?_
  refine cb_zast (i := 9) (a := b + 10) (qn := 6) C w hz hl28 hi28 rfl (by decide) (by unfold vp_in; decide) rfl dX8_init_213 (fun H locs K29 hK29 hl29 hi29 ho29 w => ?_)
  have hb29_10 := (ho29 10 (by decide)).trans hb28_10
  refine lv_iinc (v := 3) (lv' := [(2, .int 3), (1, .int 1), (0, .ref b)]) hx hb dX8_init_214 hl (k := 0) rfl (by decide) (by decide) rfl (fun ls hl => ?_)
  refine lv_goto (tgt := 189) hx hb dX8_init_217 (by decide) ?_
  refine lv_iload_n hx hb dX8_init_189 rfl (lv_at hl 0 rfl) ?_
  refine lv_iconst (v := 4) hx hb dX8_init_190 (by decide) ?_
  refine lv_icmp_ge (tgt := 220) hx hb dX8_init_191 (by decide) (fun q => absurd q (by decide)) (fun _ => ?_)
  refine lv_aload_n hx hb dX8_init_194 rfl (lv_at hl 2 rfl) ?_
  refine cb_get (v := .ref (b + 10)) C w rfl inlX8 12 (by decide) (inr_5 (List.mem_of_getElem? (i := 15) rfl)) rfl dX8_init_195 ?_
  refine lv_iconst (v := 4) hx hb dX8_init_198 (by decide) ?_
  refine lv_iload_n hx hb dX8_init_199 rfl (lv_at hl 1 rfl) ?_
  refine lv_imul hx hb dX8_init_200 ?_
  refine lv_topi (fun z15 ez15 => ?_)
  obtain rfl : z15 = (4) := ez15.trans (by decide)
  refine lv_iload_n hx hb dX8_init_201 rfl (lv_at hl 0 rfl) ?_
  refine lv_iadd hx hb dX8_init_202 ?_
  refine lv_topi (fun z16 ez16 => ?_)
  obtain rfl : z16 = (7) := ez16.trans (by decide)
  refine lv_iload_n hx hb dX8_init_203 rfl (lv_at hl 1 rfl) ?_
  refine lv_iload_n hx hb dX8_init_204 rfl (lv_at hl 0 rfl) ?_
  refine lv_icmp_eq (tgt := 212) hx hb dX8_init_205 (by decide) (fun q => absurd q (by decide)) (fun _ => ?_)
  refine lv_iconst (v := 1) hx hb dX8_init_208 (by decide) ?_
  refine lv_goto (tgt := 213) hx hb dX8_init_209 (by decide) ?_
  refine cb_zast (i := 9) (a := b + 10) (qn := 7) C w hz hl29 hi29 rfl (by decide) (by unfold vp_in; decide) rfl dX8_init_213 (fun H locs K30 hK30 hl30 hi30 ho30 w => ?_)
  have hb30_10 := (ho30 10 (by decide)).trans hb29_10
  refine lv_iinc (v := 4) (lv' := [(2, .int 4), (1, .int 1), (0, .ref b)]) hx hb dX8_init_214 hl (k := 0) rfl (by decide) (by decide) rfl (fun ls hl => ?_)
  refine lv_goto (tgt := 189) hx hb dX8_init_217 (by decide) ?_
  refine lv_iload_n hx hb dX8_init_189 rfl (lv_at hl 0 rfl) ?_
  refine lv_iconst (v := 4) hx hb dX8_init_190 (by decide) ?_
  refine lv_icmp_ge (tgt := 220) hx hb dX8_init_191 (by decide) (fun _ => ?_) (fun q => absurd (by decide) q)
  refine lv_iinc (v := 2) (lv' := [(1, .int 2), (2, .int 4), (0, .ref b)]) hx hb dX8_init_220 hl (k := 1) rfl (by decide) (by decide) rfl (fun ls hl => ?_)
  refine lv_goto (tgt := 175) hx hb dX8_init_223 (by decide) ?_
  refine lv_iload_n hx hb dX8_init_175 rfl (lv_at hl 0 rfl) ?_
  refine lv_iconst (v := 4) hx hb dX8_init_176 (by decide) ?_
  refine lv_icmp_ge (tgt := 226) hx hb dX8_init_177 (by decide) (fun q => absurd q (by decide)) (fun _ => ?_)
  refine lv_aload_n hx hb dX8_init_180 rfl (lv_at hl 2 rfl) ?_
  refine cb_get (v := .ref (b + 11)) C w rfl inlX8 13 (by decide) (inr_5 (List.mem_of_getElem? (i := 16) rfl)) rfl dX8_init_181 ?_
  refine lv_iload_n hx hb dX8_init_184 rfl (lv_at hl 0 rfl) ?_
  refine lv_iload_n hx hb dX8_init_185 rfl (lv_at hl 0 rfl) ?_
  refine cb_iast (i := 10) (a := b + 11) (qn := 2) C w hz hl30 hb30_10 rfl (by decide) (by unfold vp_in; decide) dX8_init_186 (fun H locs K31 hK31 hl31 hi31 ho31 w => ?_)
  have hb31_9 := (ho31 9 (by decide)).trans hi30
  refine lv_iconst (v := 0) hx hb dX8_init_187 (by decide) ?_
  refine lv_istore_n (lv' := [(2, .int 0), (1, .int 2), (0, .ref b)]) hx hb dX8_init_188 rfl hl (by decide) rfl (fun ls hl => ?_)
  refine lv_iload_n hx hb dX8_init_189 rfl (lv_at hl 0 rfl) ?_
  refine lv_iconst (v := 4) hx hb dX8_init_190 (by decide) ?_
  refine lv_icmp_ge (tgt := 220) hx hb dX8_init_191 (by decide) (fun q => absurd q (by decide)) (fun _ => ?_)
  refine lv_aload_n hx hb dX8_init_194 rfl (lv_at hl 2 rfl) ?_
  refine cb_get (v := .ref (b + 10)) C w rfl inlX8 12 (by decide) (inr_5 (List.mem_of_getElem? (i := 15) rfl)) rfl dX8_init_195 ?_
  refine lv_iconst (v := 4) hx hb dX8_init_198 (by decide) ?_
  refine lv_iload_n hx hb dX8_init_199 rfl (lv_at hl 1 rfl) ?_
  refine lv_imul hx hb dX8_init_200 ?_
  refine lv_topi (fun z17 ez17 => ?_)
  obtain rfl : z17 = (8) := ez17.trans (by decide)
  refine lv_iload_n hx hb dX8_init_201 rfl (lv_at hl 0 rfl) ?_
  refine lv_iadd hx hb dX8_init_202 ?_
  refine lv_topi (fun z18 ez18 => ?_)
  obtain rfl : z18 = (8) := ez18.trans (by decide)
  refine lv_iload_n hx hb dX8_init_203 rfl (lv_at hl 1 rfl) ?_
  refine lv_iload_n hx hb dX8_init_204 rfl (lv_at hl 0 rfl) ?_
  refine lv_icmp_eq (tgt := 212) hx hb dX8_init_205 (by decide) (fun q => absurd q (by decide)) (fun _ => ?_)
  refine lv_iconst (v := 1) hx hb dX8_init_208 (by decide) ?_
  refine lv_goto (tgt := 213) hx hb dX8_init_209 (by decide) ?_
  refine cb_zast (i := 9) (a := b + 10) (qn := 8) C w hz hl31 hb31_9 rfl (by decide) (by unfold vp_in; decide) rfl dX8_init_213 (fun H locs K32 hK32 hl32 hi32 ho32 w => ?_)
  have hb32_10 := (ho32 10 (by decide)).trans hi31
  refine lv_iinc (v := 1) (lv' := [(2, .int 1), (1, .int 2), (0, .ref b)]) hx hb dX8_init_214 hl (k := 0) rfl (by decide) (by decide) rfl (fun ls hl => ?_)
  refine lv_goto (tgt := 189) hx hb dX8_init_217 (by decide) ?_
  refine lv_iload_n hx hb dX8_init_189 rfl (lv_at hl 0 rfl) ?_
  refine lv_iconst (v := 4) hx hb dX8_init_190 (by decide) ?_
  refine lv_icmp_ge (tgt := 220) hx hb dX8_init_191 (by decide) (fun q => absurd q (by decide)) (fun _ => ?_)
  refine lv_aload_n hx hb dX8_init_194 rfl (lv_at hl 2 rfl) ?_
  refine cb_get (v := .ref (b + 10)) C w rfl inlX8 12 (by decide) (inr_5 (List.mem_of_getElem? (i := 15) rfl)) rfl dX8_init_195 ?_
  refine lv_iconst (v := 4) hx hb dX8_init_198 (by decide) ?_
  refine lv_iload_n hx hb dX8_init_199 rfl (lv_at hl 1 rfl) ?_
  refine lv_imul hx hb dX8_init_200 ?_
  refine lv_topi (fun z19 ez19 => ?_)
  obtain rfl : z19 = (8) := ez19.trans (by decide)
  refine lv_iload_n hx hb dX8_init_201 rfl (lv_at hl 0 rfl) ?_
  refine lv_iadd hx hb dX8_init_202 ?_
  refine lv_topi (fun z20 ez20 => ?_)
  obtain rfl : z20 = (9) := ez20.trans (by decide)
  refine lv_iload_n hx hb dX8_init_203 rfl (lv_at hl 1 rfl) ?_
  refine lv_iload_n hx hb dX8_init_204 rfl (lv_at hl 0 rfl) ?_
  refine lv_icmp_eq (tgt := 212) hx hb dX8_init_205 (by decide) (fun q => absurd q (by decide)) (fun _ => ?_)
  refine lv_iconst (v := 1) hx hb dX8_init_208 (by decide) ?_
  refine lv_goto (tgt := 213) hx hb dX8_init_209 (by decide) ?_
  refine cb_zast (i := 9) (a := b + 10) (qn := 9) C w hz hl32 hi32 rfl (by decide) (by unfold vp_in; decide) rfl dX8_init_213 (fun H locs K33 hK33 hl33 hi33 ho33 w => ?_)
  have hb33_10 := (ho33 10 (by decide)).trans hb32_10
  refine lv_iinc (v := 2) (lv' := [(2, .int 2), (1, .int 2), (0, .ref b)]) hx hb dX8_init_214 hl (k := 0) rfl (by decide) (by decide) rfl (fun ls hl => ?_)
  refine lv_goto (tgt := 189) hx hb dX8_init_217 (by decide) ?_
  refine lv_iload_n hx hb dX8_init_189 rfl (lv_at hl 0 rfl) ?_
  refine lv_iconst (v := 4) hx hb dX8_init_190 (by decide) ?_
  refine lv_icmp_ge (tgt := 220) hx hb dX8_init_191 (by decide) (fun q => absurd q (by decide)) (fun _ => ?_)
  refine lv_aload_n hx hb dX8_init_194 rfl (lv_at hl 2 rfl) ?_
  refine cb_get (v := .ref (b + 10)) C w rfl inlX8 12 (by decide) (inr_5 (List.mem_of_getElem? (i := 15) rfl)) rfl dX8_init_195 ?_
  refine lv_iconst (v := 4) hx hb dX8_init_198 (by decide) ?_
  refine lv_iload_n hx hb dX8_init_199 rfl (lv_at hl 1 rfl) ?_
  refine lv_imul hx hb dX8_init_200 ?_
  refine lv_topi (fun z21 ez21 => ?_)
  obtain rfl : z21 = (8) := ez21.trans (by decide)
  refine lv_iload_n hx hb dX8_init_201 rfl (lv_at hl 0 rfl) ?_
  refine lv_iadd hx hb dX8_init_202 ?_
  refine lv_topi (fun z22 ez22 => ?_)
  obtain rfl : z22 = (10) := ez22.trans (by decide)
  refine lv_iload_n hx hb dX8_init_203 rfl (lv_at hl 1 rfl) ?_
  refine lv_iload_n hx hb dX8_init_204 rfl (lv_at hl 0 rfl) ?_
  refine lv_icmp_eq (tgt := 212) hx hb dX8_init_205 (by decide) (fun _ => ?_) (fun q => absurd (by decide) q)
  refine lv_iconst (v := 0) hx hb dX8_init_212 (by decide) ?_
  refine cb_zast (i := 9) (a := b + 10) (qn := 10) C w hz hl33 hi33 rfl (by decide) (by unfold vp_in; decide) rfl dX8_init_213 (fun H locs K34 hK34 hl34 hi34 ho34 w => ?_)
  have hb34_10 := (ho34 10 (by decide)).trans hb33_10
  refine lv_iinc (v := 3) (lv' := [(2, .int 3), (1, .int 2), (0, .ref b)]) hx hb dX8_init_214 hl (k := 0) rfl (by decide) (by decide) rfl (fun ls hl => ?_)
  refine lv_goto (tgt := 189) hx hb dX8_init_217 (by decide) ?_
  refine lv_iload_n hx hb dX8_init_189 rfl (lv_at hl 0 rfl) ?_
  refine lv_iconst (v := 4) hx hb dX8_init_190 (by decide) ?_
  refine lv_icmp_ge (tgt := 220) hx hb dX8_init_191 (by decide) (fun q => absurd q (by decide)) (fun _ => ?_)
  refine lv_aload_n hx hb dX8_init_194 rfl (lv_at hl 2 rfl) ?_
  refine cb_get (v := .ref (b + 10)) C w rfl inlX8 12 (by decide) (inr_5 (List.mem_of_getElem? (i := 15) rfl)) rfl dX8_init_195 ?_
  refine lv_iconst (v := 4) hx hb dX8_init_198 (by decide) ?_
  refine lv_iload_n hx hb dX8_init_199 rfl (lv_at hl 1 rfl) ?_
  refine lv_imul hx hb dX8_init_200 ?_
  refine lv_topi (fun z23 ez23 => ?_)
  obtain rfl : z23 = (8) := ez23.trans (by decide)
  refine lv_iload_n hx hb dX8_init_201 rfl (lv_at hl 0 rfl) ?_
  refine lv_iadd hx hb dX8_init_202 ?_
  refine lv_topi (fun z24 ez24 => ?_)
  obtain rfl : z24 = (11) := ez24.trans (by decide)
  refine lv_iload_n hx hb dX8_init_203 rfl (lv_at hl 1 rfl) ?_
  refine lv_iload_n hx hb dX8_init_204 rfl (lv_at hl 0 rfl) ?_
  refine lv_icmp_eq (tgt := 212) hx hb dX8_init_205 (by decide) (fun q => absurd q (by decide)) (fun _ => ?_)
  refine lv_iconst (v := 1) hx hb dX8_init_208 (by decide) ?_
  refine lv_goto (tgt := 213) hx hb dX8_init_209 (by decide) ?_
  refine cb_zast (i := 9) (a := b + 10) (qn := 11) C w hz hl34 hi34 rfl (by decide) (by unfold vp_in; decide) rfl dX8_init_213 (fun H locs K35 hK35 hl35 hi35 ho35 w => ?_)
  have hb35_10 := (ho35 10 (by decide)).trans hb34_10
  refine lv_iinc (v := 4) (lv' := [(2, .int 4), (1, .int 2), (0, .ref b)]) hx hb dX8_init_214 hl (k := 0) rfl (by decide) (by decide) rfl (fun ls hl => ?_)
  refine lv_goto (tgt := 189) hx hb dX8_init_217 (by decide) ?_
  refine lv_iload_n hx hb dX8_init_189 rfl (lv_at hl 0 rfl) ?_
  refine lv_iconst (v := 4) hx hb dX8_init_190 (by decide) ?_
  refine lv_icmp_ge (tgt := 220) hx hb dX8_init_191 (by decide) (fun _ => ?_) (fun q => absurd (by decide) q)
  refine lv_iinc (v := 3) (lv' := [(1, .int 3), (2, .int 4), (0, .ref b)]) hx hb dX8_init_220 hl (k := 1) rfl (by decide) (by decide) rfl (fun ls hl => ?_)
  refine lv_goto (tgt := 175) hx hb dX8_init_223 (by decide) ?_
  refine lv_iload_n hx hb dX8_init_175 rfl (lv_at hl 0 rfl) ?_
  refine lv_iconst (v := 4) hx hb dX8_init_176 (by decide) ?_
  refine lv_icmp_ge (tgt := 226) hx hb dX8_init_177 (by decide) (fun q => absurd q (by decide)) (fun _ => ?_)
  refine lv_aload_n hx hb dX8_init_180 rfl (lv_at hl 2 rfl) ?_
  refine cb_get (v := .ref (b + 11)) C w rfl inlX8 13 (by decide) (inr_5 (List.mem_of_getElem? (i := 16) rfl)) rfl dX8_init_181 ?_
  refine lv_iload_n hx hb dX8_init_184 rfl (lv_at hl 0 rfl) ?_
  refine lv_iload_n hx hb dX8_init_185 rfl (lv_at hl 0 rfl) ?_
  refine cb_iast (i := 10) (a := b + 11) (qn := 3) C w hz hl35 hb35_10 rfl (by decide) (by unfold vp_in; decide) dX8_init_186 (fun H locs K36 hK36 hl36 hi36 ho36 w => ?_)
  have hb36_9 := (ho36 9 (by decide)).trans hi35
  refine lv_iconst (v := 0) hx hb dX8_init_187 (by decide) ?_
  refine lv_istore_n (lv' := [(2, .int 0), (1, .int 3), (0, .ref b)]) hx hb dX8_init_188 rfl hl (by decide) rfl (fun ls hl => ?_)
  refine lv_iload_n hx hb dX8_init_189 rfl (lv_at hl 0 rfl) ?_
  refine lv_iconst (v := 4) hx hb dX8_init_190 (by decide) ?_
  refine lv_icmp_ge (tgt := 220) hx hb dX8_init_191 (by decide) (fun q => absurd q (by decide)) (fun _ => ?_)
  refine lv_aload_n hx hb dX8_init_194 rfl (lv_at hl 2 rfl) ?_
  refine cb_get (v := .ref (b + 10)) C w rfl inlX8 12 (by decide) (inr_5 (List.mem_of_getElem? (i := 15) rfl)) rfl dX8_init_195 ?_
  refine lv_iconst (v := 4) hx hb dX8_init_198 (by decide) ?_
  refine lv_iload_n hx hb dX8_init_199 rfl (lv_at hl 1 rfl) ?_
  refine lv_imul hx hb dX8_init_200 ?_
  refine lv_topi (fun z25 ez25 => ?_)
  obtain rfl : z25 = (12) := ez25.trans (by decide)
  refine lv_iload_n hx hb dX8_init_201 rfl (lv_at hl 0 rfl) ?_
  refine lv_iadd hx hb dX8_init_202 ?_
  refine lv_topi (fun z26 ez26 => ?_)
  obtain rfl : z26 = (12) := ez26.trans (by decide)
  refine lv_iload_n hx hb dX8_init_203 rfl (lv_at hl 1 rfl) ?_
  refine lv_iload_n hx hb dX8_init_204 rfl (lv_at hl 0 rfl) ?_
  refine lv_icmp_eq (tgt := 212) hx hb dX8_init_205 (by decide) (fun q => absurd q (by decide)) (fun _ => ?_)
  refine lv_iconst (v := 1) hx hb dX8_init_208 (by decide) ?_
  refine lv_goto (tgt := 213) hx hb dX8_init_209 (by decide) ?_
  refine cb_zast (i := 9) (a := b + 10) (qn := 12) C w hz hl36 hb36_9 rfl (by decide) (by unfold vp_in; decide) rfl dX8_init_213 (fun H locs K37 hK37 hl37 hi37 ho37 w => ?_)
  have hb37_10 := (ho37 10 (by decide)).trans hi36
  refine lv_iinc (v := 1) (lv' := [(2, .int 1), (1, .int 3), (0, .ref b)]) hx hb dX8_init_214 hl (k := 0) rfl (by decide) (by decide) rfl (fun ls hl => ?_)
  refine lv_goto (tgt := 189) hx hb dX8_init_217 (by decide) ?_
  refine lv_iload_n hx hb dX8_init_189 rfl (lv_at hl 0 rfl) ?_
  refine lv_iconst (v := 4) hx hb dX8_init_190 (by decide) ?_
  refine lv_icmp_ge (tgt := 220) hx hb dX8_init_191 (by decide) (fun q => absurd q (by decide)) (fun _ => ?_)
  refine lv_aload_n hx hb dX8_init_194 rfl (lv_at hl 2 rfl) ?_
  refine cb_get (v := .ref (b + 10)) C w rfl inlX8 12 (by decide) (inr_5 (List.mem_of_getElem? (i := 15) rfl)) rfl dX8_init_195 ?_
  refine lv_iconst (v := 4) hx hb dX8_init_198 (by decide) ?_
  refine lv_iload_n hx hb dX8_init_199 rfl (lv_at hl 1 rfl) ?_
  refine lv_imul hx hb dX8_init_200 ?_
  refine lv_topi (fun z27 ez27 => ?_)
  obtain rfl : z27 = (12) := ez27.trans (by decide)
  refine lv_iload_n hx hb dX8_init_201 rfl (lv_at hl 0 rfl) ?_
  refine lv_iadd hx hb dX8_init_202 ?_
  refine lv_topi (fun z28 ez28 => ?_)
  obtain rfl : z28 = (13) := ez28.trans (by decide)
  refine lv_iload_n hx hb dX8_init_203 rfl (lv_at hl 1 rfl) ?_
  refine lv_iload_n hx hb dX8_init_204 rfl (lv_at hl 0 rfl) ?_
  refine lv_icmp_eq (tgt := 212) hx hb dX8_init_205 (by decide) (fun q => absurd q (by decide)) (fun _ => ?_)
  refine lv_iconst (v := 1) hx hb dX8_init_208 (by decide) ?_
  refine lv_goto (tgt := 213) hx hb dX8_init_209 (by decide) ?_
  refine cb_zast (i := 9) (a := b + 10) (qn := 13) C w hz hl37 hi37 rfl (by decide) (by unfold vp_in; decide) rfl dX8_init_213 (fun H locs K38 hK38 hl38 hi38 ho38 w => ?_)
  have hb38_10 := (ho38 10 (by decide)).trans hb37_10
  refine lv_iinc (v := 2) (lv' := [(2, .int 2), (1, .int 3), (0, .ref b)]) hx hb dX8_init_214 hl (k := 0) rfl (by decide) (by decide) rfl (fun ls hl => ?_)
  refine lv_goto (tgt := 189) hx hb dX8_init_217 (by decide) ?_
  refine lv_iload_n hx hb dX8_init_189 rfl (lv_at hl 0 rfl) ?_
  refine lv_iconst (v := 4) hx hb dX8_init_190 (by decide) ?_
  refine lv_icmp_ge (tgt := 220) hx hb dX8_init_191 (by decide) (fun q => absurd q (by decide)) (fun _ => ?_)
  refine lv_aload_n hx hb dX8_init_194 rfl (lv_at hl 2 rfl) ?_
  refine cb_get (v := .ref (b + 10)) C w rfl inlX8 12 (by decide) (inr_5 (List.mem_of_getElem? (i := 15) rfl)) rfl dX8_init_195 ?_
  refine lv_iconst (v := 4) hx hb dX8_init_198 (by decide) ?_
  refine lv_iload_n hx hb dX8_init_199 rfl (lv_at hl 1 rfl) ?_
  refine lv_imul hx hb dX8_init_200 ?_
  refine lv_topi (fun z29 ez29 => ?_)
  obtain rfl : z29 = (12) := ez29.trans (by decide)
  refine lv_iload_n hx hb dX8_init_201 rfl (lv_at hl 0 rfl) ?_
  refine lv_iadd hx hb dX8_init_202 ?_
  refine lv_topi (fun z30 ez30 => ?_)
  obtain rfl : z30 = (14) := ez30.trans (by decide)
  refine lv_iload_n hx hb dX8_init_203 rfl (lv_at hl 1 rfl) ?_
  refine lv_iload_n hx hb dX8_init_204 rfl (lv_at hl 0 rfl) ?_
  refine lv_icmp_eq (tgt := 212) hx hb dX8_init_205 (by decide) (fun q => absurd q (by decide)) (fun _ => ?_)
  refine lv_iconst (v := 1) hx hb dX8_init_208 (by decide) ?_
  refine lv_goto (tgt := 213) hx hb dX8_init_209 (by decide) ?_
  refine cb_zast (i := 9) (a := b + 10) (qn := 14) C w hz hl38 hi38 rfl (by decide) (by unfold vp_in; decide) rfl dX8_init_213 (fun H locs K39 hK39 hl39 hi39 ho39 w => ?_)
  have hb39_10 := (ho39 10 (by decide)).trans hb38_10
  refine lv_iinc (v := 3) (lv' := [(2, .int 3), (1, .int 3), (0, .ref b)]) hx hb dX8_init_214 hl (k := 0) rfl (by decide) (by decide) rfl (fun ls hl => ?_)
  refine lv_goto (tgt := 189) hx hb dX8_init_217 (by decide) ?_
  refine lv_iload_n hx hb dX8_init_189 rfl (lv_at hl 0 rfl) ?_
  refine lv_iconst (v := 4) hx hb dX8_init_190 (by decide) ?_
  refine lv_icmp_ge (tgt := 220) hx hb dX8_init_191 (by decide) (fun q => absurd q (by decide)) (fun _ => ?_)
  refine lv_aload_n hx hb dX8_init_194 rfl (lv_at hl 2 rfl) ?_
  refine cb_get (v := .ref (b + 10)) C w rfl inlX8 12 (by decide) (inr_5 (List.mem_of_getElem? (i := 15) rfl)) rfl dX8_init_195 ?_
  refine lv_iconst (v := 4) hx hb dX8_init_198 (by decide) ?_
  refine lv_iload_n hx hb dX8_init_199 rfl (lv_at hl 1 rfl) ?_
  refine lv_imul hx hb dX8_init_200 ?_
  refine lv_topi (fun z31 ez31 => ?_)
  obtain rfl : z31 = (12) := ez31.trans (by decide)
  refine lv_iload_n hx hb dX8_init_201 rfl (lv_at hl 0 rfl) ?_
  refine lv_iadd hx hb dX8_init_202 ?_
  refine lv_topi (fun z32 ez32 => ?_)
  obtain rfl : z32 = (15) := ez32.trans (by decide)
  refine lv_iload_n hx hb dX8_init_203 rfl (lv_at hl 1 rfl) ?_
  refine lv_iload_n hx hb dX8_init_204 rfl (lv_at hl 0 rfl) ?_
  refine lv_icmp_eq (tgt := 212) hx hb dX8_init_205 (by decide) (fun _ => ?_) (fun q => absurd (by decide) q)
  refine lv_iconst (v := 0) hx hb dX8_init_212 (by decide) ?_
  refine cb_zast (i := 9) (a := b + 10) (qn := 15) C w hz hl39 hi39 rfl (by decide) (by unfold vp_in; decide) rfl dX8_init_213 (fun H locs K40 hK40 hl40 hi40 ho40 w => ?_)
  have hb40_10 := (ho40 10 (by decide)).trans hb39_10
  refine lv_iinc (v := 4) (lv' := [(2, .int 4), (1, .int 3), (0, .ref b)]) hx hb dX8_init_214 hl (k := 0) rfl (by decide) (by decide) rfl (fun ls hl => ?_)
  refine lv_goto (tgt := 189) hx hb dX8_init_217 (by decide) ?_
  refine lv_iload_n hx hb dX8_init_189 rfl (lv_at hl 0 rfl) ?_
  refine lv_iconst (v := 4) hx hb dX8_init_190 (by decide) ?_
  refine lv_icmp_ge (tgt := 220) hx hb dX8_init_191 (by decide) (fun _ => ?_) (fun q => absurd (by decide) q)
  refine lv_iinc (v := 4) (lv' := [(1, .int 4), (2, .int 4), (0, .ref b)]) hx hb dX8_init_220 hl (k := 1) rfl (by decide) (by decide) rfl (fun ls hl => ?_)
  refine lv_goto (tgt := 175) hx hb dX8_init_223 (by decide) ?_
  refine lv_iload_n hx hb dX8_init_175 rfl (lv_at hl 0 rfl) ?_
  refine lv_iconst (v := 4) hx hb dX8_init_176 (by decide) ?_
  refine lv_icmp_ge (tgt := 226) hx hb dX8_init_177 (by decide) (fun _ => ?_) (fun q => absurd (by decide) q)
  exact cb_ret C w (by unfold LL8; rw [hK40, hK39, hK38, hK37, hK36, hK35, hK34, hK33, hK32, hK31, hK30, hK29, hK28, hK27, hK26, hK25, hK24, hK23, hK22, hK21, hK20, hK19, hK18, hK17, hK16, hK15, hK14, hK13, hK12, hK11, hK10, hK9, hK8, hK7, hK6, hK5, hK4, hK3, hK2, hK1]) rfl rfl dX8_init_226
