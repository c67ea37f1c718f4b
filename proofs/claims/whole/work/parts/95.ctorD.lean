/-! the constructor of X5 -/
theorem df_X5 : ∀ j, j < 5 → defaultValue (tyX5 j) = vp_V [.null, .null, .null, .null, .int 0] j := fun j hj => by
  match j, hj with
  | 0, _ => rfl
  | 1, _ => rfl
  | 2, _ => rfl
  | 3, _ => rfl
  | 4, _ => rfl
def LL5 (cy : Nat → ClassId) (b : Nat) : List va_E := .inr (5, [.ref (b + 1), .ref (b + 2), .ref (b + 3), .ref (b + 4), .int 0]) :: (([] : List va_E) ++ [.inl (cy 0, 12, .inl (fun _ => 0))] ++ [.inl (cy 0, 12, .inl (fun _ => 0))] ++ [.inl (cy 0, 12, .inl (fun _ => 0))] ++ [.inl (cy 0, 12, .inl (fun _ => 0))])
theorem hd_X5_init : yX5_init.cls ≠ "java/lang/invoke/MethodHandle" ∧ yX5_init.cls ≠ "java/lang/invoke/VarHandle" ∧ (parseMethodDescriptor yX5_init.desc).map (fun d => d.parameters.length) = some 0 := ⟨by decide, by decide, by decide +kernel⟩
set_option maxHeartbeats 8000000 in
set_option maxRecDepth 100000 in
theorem C_X5 : ck_C yX5_init cX5_init 1 1 4 48 (.inr (5, [.null, .null, .null, .null, .int 0])) LL5 := by
  refine ck_entry (own := RX5) (by decide) rfl rfl (fun _ => Nat.le_of_ble_eq_true rfl) (fun p l e s m below meth c D cy b ls C w hz hl => ?_)
  obtain ⟨hx, hb, hml, hown, hts, hr, hlk, hnm⟩ := id C
  have hl0 : ([] : List va_E).length = 0 := rfl
  refine lv_aload_n hx hb dX5_init_0 rfl (lv_at hl 0 rfl) ?_
  refine cb_obj C (inr_3 (List.mem_of_getElem? (i := 16) rfl)) hl.1 dX5_init_1 ?_
  refine lv_aload_n hx hb dX5_init_4 rfl (lv_at hl 0 rfl) ?_
  refine lv_bipush (v := 12) hx hb dX5_init_5 (by decide) ?_
  refine cb_newa (N' := 12) (a := b + 1) (cells1 := 1) (slots1 := 12) C w hl0 (by decide) (by decide) (by decide) rfl rfl rfl (Nat.le_of_ble_eq_true rfl) (Nat.le_of_ble_eq_true rfl) dX5_init_7 (fun H K1 hK1 hl1 w => ?_)
  refine cb_put C w hz hl1 rfl inlX5 tyX5 tyX5_ok nmX5 0 (by decide) (inr_3 (List.mem_of_getElem? (i := 17) rfl)) rfl (ty := tyX5 0) (tyX5_ok 0 (by decide)) rfl rfl (Nat.le_of_ble_eq_true rfl) dX5_init_9 (fun H locs w => ?_)
  have w : ck_W D cy b (.inr (5, [.ref (b + 1), .null, .null, .null, .int 0]) :: K1) s H locs := w
  refine lv_aload_n hx hb dX5_init_12 rfl (lv_at hl 0 rfl) ?_
  refine lv_bipush (v := 12) hx hb dX5_init_13 (by decide) ?_
  refine cb_newa (N' := 12) (a := b + 2) (cells1 := 2) (slots1 := 24) C w hl1 (by decide) (by decide) (by decide) rfl rfl rfl (Nat.le_of_ble_eq_true rfl) (Nat.le_of_ble_eq_true rfl) dX5_init_15 (fun H K2 hK2 hl2 w => ?_)
  refine cb_put C w hz hl2 rfl inlX5 tyX5 tyX5_ok nmX5 1 (by decide) (inr_3 (List.mem_of_getElem? (i := 18) rfl)) rfl (ty := tyX5 1) (tyX5_ok 1 (by decide)) rfl rfl (Nat.le_of_ble_eq_true rfl) dX5_init_17 (fun H locs w => ?_)
  have w : ck_W D cy b (.inr (5, [.ref (b + 1), .ref (b + 2), .null, .null, .int 0]) :: K2) s H locs := w
  refine lv_aload_n hx hb dX5_init_20 rfl (lv_at hl 0 rfl) ?_
  refine lv_bipush (v := 12) hx hb dX5_init_21 (by decide) ?_
  refine cb_newa (N' := 12) (a := b + 3) (cells1 := 3) (slots1 := 36) C w hl2 (by decide) (by decide) (by decide) rfl rfl rfl (Nat.le_of_ble_eq_true rfl) (Nat.le_of_ble_eq_true rfl) dX5_init_23 (fun H K3 hK3 hl3 w => ?_)
  refine cb_put C w hz hl3 rfl inlX5 tyX5 tyX5_ok nmX5 2 (by decide) (inr_3 (List.mem_of_getElem? (i := 19) rfl)) rfl (ty := tyX5 2) (tyX5_ok 2 (by decide)) rfl rfl (Nat.le_of_ble_eq_true rfl) dX5_init_25 (fun H locs w => ?_)
  have w : ck_W D cy b (.inr (5, [.ref (b + 1), .ref (b + 2), .ref (b + 3), .null, .int 0]) :: K3) s H locs := w
  refine lv_aload_n hx hb dX5_init_28 rfl (lv_at hl 0 rfl) ?_
  refine lv_bipush (v := 12) hx hb dX5_init_29 (by decide) ?_
  refine cb_newa (N' := 12) (a := b + 4) (cells1 := 4) (slots1 := 48) C w hl3 (by decide) (by decide) (by decide) rfl rfl rfl (Nat.le_of_ble_eq_true rfl) (Nat.le_of_ble_eq_true rfl) dX5_init_31 (fun H K4 hK4 hl4 w => ?_)
  refine cb_put C w hz hl4 rfl inlX5 tyX5 tyX5_ok nmX5 3 (by decide) (inr_3 (List.mem_of_getElem? (i := 20) rfl)) rfl (ty := tyX5 3) (tyX5_ok 3 (by decide)) rfl rfl (Nat.le_of_ble_eq_true rfl) dX5_init_33 (fun H locs w => ?_)
  have w : ck_W D cy b (.inr (5, [.ref (b + 1), .ref (b + 2), .ref (b + 3), .ref (b + 4), .int 0]) :: K4) s H locs := w
  exact cb_ret C w (by subst hK1 hK2 hK3 hK4; rfl) rfl rfl dX5_init_36
