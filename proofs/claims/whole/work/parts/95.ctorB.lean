/-! the constructor of X4 -/
theorem df_X4 : ∀ j, j < 2 → defaultValue (tyX4 j) = vp_V [.null, .null] j := fun j hj => by
  match j, hj with
  | 0, _ => rfl
  | 1, _ => rfl
def LL4 (cy : Nat → ClassId) (b : Nat) : List va_E := .inr (4, [.ref (b + 1), .ref (b + 2)]) :: (([] : List va_E) ++ [.inl (cy 0, 8, .inl (fun _ => 0))] ++ [.inl (cy 0, 8, .inl (fun _ => 0))])
theorem hd_X4_init : yX4_init.cls ≠ "java/lang/invoke/MethodHandle" ∧ yX4_init.cls ≠ "java/lang/invoke/VarHandle" ∧ (parseMethodDescriptor yX4_init.desc).map (fun d => d.parameters.length) = some 0 := ⟨by decide, by decide, by decide +kernel⟩
set_option maxHeartbeats 8000000 in
set_option maxRecDepth 100000 in
theorem C_X4 : ck_C yX4_init cX4_init 1 1 2 16 (.inr (4, [.null, .null])) LL4 := by
  refine ck_entry (own := RX4) (by decide) rfl rfl (fun _ => Nat.le_of_ble_eq_true rfl) (fun p l e s m below meth c D cy b ls C w hz hl => ?_)
  obtain ⟨hx, hb, hml, hown, hts, hr, hlk, hnm⟩ := id C
  have hl0 : ([] : List va_E).length = 0 := rfl
  refine lv_aload_n hx hb dX4_init_0 rfl (lv_at hl 0 rfl) ?_
  refine cb_obj C (inr_3 (List.mem_of_getElem? (i := 7) rfl)) hl.1 dX4_init_1 ?_
  refine lv_aload_n hx hb dX4_init_4 rfl (lv_at hl 0 rfl) ?_
  refine lv_bipush (v := 8) hx hb dX4_init_5 (by decide) ?_
  refine cb_newa (N' := 8) (a := b + 1) (cells1 := 1) (slots1 := 8) C w hl0 (by decide) (by decide) (by decide) rfl rfl rfl (Nat.le_of_ble_eq_true rfl) (Nat.le_of_ble_eq_true rfl) dX4_init_7 (fun H K1 hK1 hl1 w => ?_)
  refine cb_put C w hz hl1 rfl inlX4 tyX4 tyX4_ok nmX4 0 (by decide) (inr_3 (List.mem_of_getElem? (i := 8) rfl)) rfl (ty := tyX4 0) (tyX4_ok 0 (by decide)) rfl rfl (Nat.le_of_ble_eq_true rfl) dX4_init_9 (fun H locs w => ?_)
  have w : ck_W D cy b (.inr (4, [.ref (b + 1), .null]) :: K1) s H locs := w
  refine lv_aload_n hx hb dX4_init_12 rfl (lv_at hl 0 rfl) ?_
  refine lv_bipush (v := 8) hx hb dX4_init_13 (by decide) ?_
  refine cb_newa (N' := 8) (a := b + 2) (cells1 := 2) (slots1 := 16) C w hl1 (by decide) (by decide) (by decide) rfl rfl rfl (Nat.le_of_ble_eq_true rfl) (Nat.le_of_ble_eq_true rfl) dX4_init_15 (fun H K2 hK2 hl2 w => ?_)
  refine cb_put C w hz hl2 rfl inlX4 tyX4 tyX4_ok nmX4 1 (by decide) (inr_3 (List.mem_of_getElem? (i := 9) rfl)) rfl (ty := tyX4 1) (tyX4_ok 1 (by decide)) rfl rfl (Nat.le_of_ble_eq_true rfl) dX4_init_17 (fun H locs w => ?_)
  have w : ck_W D cy b (.inr (4, [.ref (b + 1), .ref (b + 2)]) :: K2) s H locs := w
  exact cb_ret C w (by subst hK1 hK2; rfl) rfl rfl dX4_init_20
