/-! the constructor of X3 -/
theorem df_X3 : ∀ j, j < 6 → defaultValue (tyX3 j) = vp_V [.int 0, .int 0, .int 0, .null, .null, .null] j := fun j hj => by
  match j, hj with
  | 0, _ => rfl
  | 1, _ => rfl
  | 2, _ => rfl
  | 3, _ => rfl
  | 4, _ => rfl
  | 5, _ => rfl
def LL3 (cy : Nat → ClassId) (b : Nat) : List va_E := .inr (3, [.int 0, .int 0, .int 0, .ref (b + 1), .ref (b + 2), .ref (b + 3)]) :: (([] : List va_E) ++ [.inl (cy 0, 8, .inl (fun _ => 0))] ++ [.inl (cy 0, 8, .inl (fun _ => 0))] ++ LL2 cy (b + 3))
theorem hd_X3_init : yX3_init.cls ≠ "java/lang/invoke/MethodHandle" ∧ yX3_init.cls ≠ "java/lang/invoke/VarHandle" ∧ (parseMethodDescriptor yX3_init.desc).map (fun d => d.parameters.length) = some 0 := ⟨by decide, by decide, by decide +kernel⟩
set_option maxHeartbeats 8000000 in
set_option maxRecDepth 100000 in
theorem C_X3 : ck_C yX3_init cX3_init 1 2 4 41 (.inr (3, [.int 0, .int 0, .int 0, .null, .null, .null])) LL3 := by
  refine ck_entry (own := RX3) (by decide) rfl rfl (fun _ => Nat.le_of_ble_eq_true rfl) (fun p l e s m below meth c D cy b ls C w hz hl => ?_)
  obtain ⟨hx, hb, hml, hown, hts, hr, hlk, hnm⟩ := id C
  have hl0 : ([] : List va_E).length = 0 := rfl
  refine lv_aload_n hx hb dX3_init_0 rfl (lv_at hl 0 rfl) ?_
  refine cb_obj C (inr_4 (List.mem_of_getElem? (i := 19) rfl)) hl.1 dX3_init_1 ?_
  refine lv_aload_n hx hb dX3_init_4 rfl (lv_at hl 0 rfl) ?_
  refine lv_bipush (v := 8) hx hb dX3_init_5 (by decide) ?_
  refine cb_newa (N' := 8) (a := b + 1) (cells1 := 1) (slots1 := 8) C w hl0 (by decide) (by decide) (by decide) rfl rfl rfl (Nat.le_of_ble_eq_true rfl) (Nat.le_of_ble_eq_true rfl) dX3_init_7 (fun H K1 hK1 hl1 w => ?_)
  refine cb_put C w hz hl1 rfl inlX3 tyX3 tyX3_ok nmX3 3 (by decide) (inr_4 (List.mem_of_getElem? (i := 20) rfl)) rfl (ty := tyX3 3) (tyX3_ok 3 (by decide)) rfl rfl (Nat.le_of_ble_eq_true rfl) dX3_init_9 (fun H locs w => ?_)
  have w : ck_W D cy b (.inr (3, [.int 0, .int 0, .int 0, .ref (b + 1), .null, .null]) :: K1) s H locs := w
  refine lv_aload_n hx hb dX3_init_12 rfl (lv_at hl 0 rfl) ?_
  refine lv_bipush (v := 8) hx hb dX3_init_13 (by decide) ?_
  refine cb_newa (N' := 8) (a := b + 2) (cells1 := 2) (slots1 := 16) C w hl1 (by decide) (by decide) (by decide) rfl rfl rfl (Nat.le_of_ble_eq_true rfl) (Nat.le_of_ble_eq_true rfl) dX3_init_15 (fun H K2 hK2 hl2 w => ?_)
  refine cb_put C w hz hl2 rfl inlX3 tyX3 tyX3_ok nmX3 4 (by decide) (inr_4 (List.mem_of_getElem? (i := 21) rfl)) rfl (ty := tyX3 4) (tyX3_ok 4 (by decide)) rfl rfl (Nat.le_of_ble_eq_true rfl) dX3_init_17 (fun H locs w => ?_)
  have w : ck_W D cy b (.inr (3, [.int 0, .int 0, .int 0, .ref (b + 1), .ref (b + 2), .null]) :: K2) s H locs := w
  refine lv_aload_n hx hb dX3_init_20 rfl (lv_at hl 0 rfl) ?_
  refine cb_mk (a := b + 3) (mc := 1) (ms := 24) (cells1 := 4) (slots1 := 41) (LL := LL2) C w hl2 inlX2 tyX2 tyX2_ok (inr_4 (List.mem_of_getElem? (i := 22) rfl)) (inr_1 (List.mem_of_getElem? (i := 22) rfl)) (inr_1 (List.mem_of_getElem? (i := 23) rfl)) rfl df_X2 rfl rfl rfl rfl (Nat.le_of_ble_eq_true rfl) (Nat.le_of_ble_eq_true rfl) (fun H1 w1 => cb_runN (host := "TouchSheet") C w1 (LL := LL2) (by show b + (List.length K2 + 1) = _; rw [hl2]) C_X2 (inr_3 (List.mem_of_getElem? (i := 2) rfl)) (inr_1 (List.mem_of_getElem? (i := 23) rfl)) (inr_3 (List.mem_of_getElem? (i := 1) rfl)) (List.mem_of_getElem? (i := 7) rfl) rfl hd_X2_init (by decide) (by decide) hl.1 (Nat.le_of_ble_eq_true rfl) dX3_init_25 ⟨Nat.le_of_ble_eq_true rfl, Nat.le_of_ble_eq_true rfl⟩) dX3_init_21 dX3_init_24 (fun H locs K3 hK3 hl3 w => ?_)
  refine cb_put C w hz hl3 rfl inlX3 tyX3 tyX3_ok nmX3 5 (by decide) (inr_4 (List.mem_of_getElem? (i := 23) rfl)) rfl (ty := tyX3 5) (tyX3_ok 5 (by decide)) rfl rfl (Nat.le_of_ble_eq_true rfl) dX3_init_28 (fun H locs w => ?_)
  have w : ck_W D cy b (.inr (3, [.int 0, .int 0, .int 0, .ref (b + 1), .ref (b + 2), .ref (b + 3)]) :: K3) s H locs := w
  exact cb_ret C w (by subst hK1 hK2 hK3; rfl) rfl rfl dX3_init_31
