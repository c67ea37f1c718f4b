/-! the constructor of X0 -/
theorem df_X0 : ∀ j, j < 4 → defaultValue (tyX0 j) = vp_V [.null, .null, .null, .int 0] j := fun j hj => by
  match j, hj with
  | 0, _ => rfl
  | 1, _ => rfl
  | 2, _ => rfl
  | 3, _ => rfl
def LL0 (cy : Nat → ClassId) (b : Nat) : List va_E := .inr (0, [.ref (b + 1), .ref (b + 3), .ref (b + 5), .int 0]) :: (([] : List va_E) ++ LL2 cy (b + 1) ++ LL2 cy (b + 3) ++ [.inl (cy 3, 12, .inr (.inr (.inr (.inr (fun j => some (b + 5 + 1 + j))))))] ++ List.replicate 12 (.inl (cy 0, 6, .inl (fun _ => 0))))
theorem hd_X0_init : yX0_init.cls ≠ "java/lang/invoke/MethodHandle" ∧ yX0_init.cls ≠ "java/lang/invoke/VarHandle" ∧ (parseMethodDescriptor yX0_init.desc).map (fun d => d.parameters.length) = some 0 := ⟨by decide, by decide, by decide +kernel⟩
set_option maxHeartbeats 8000000 in
set_option maxRecDepth 100000 in
theorem C_X0 : ck_C yX0_init cX0_init 1 2 17 134 (.inr (0, [.null, .null, .null, .int 0])) LL0 := by
  refine ck_entry (own := RX0) (by decide) rfl rfl (fun _ => Nat.le_of_ble_eq_true rfl) (fun p l e s m below meth c D cy b ls C w hz hl => ?_)
  obtain ⟨hx, hb, hml, hown, hts, hr, hlk, hnm⟩ := id C
  have hl0 : ([] : List va_E).length = 0 := rfl
  refine lv_aload_n hx hb dX0_init_0 rfl (lv_at hl 0 rfl) ?_
  refine cb_obj C (inr_4 (List.mem_of_getElem? (i := 11) rfl)) hl.1 dX0_init_1 ?_
  refine lv_aload_n hx hb dX0_init_4 rfl (lv_at hl 0 rfl) ?_
  refine cb_mk (a := b + 1) (mc := 1) (ms := 24) (cells1 := 2) (slots1 := 25) (LL := LL2) C w hl0 inlX2 tyX2 tyX2_ok (inr_4 (List.mem_of_getElem? (i := 12) rfl)) (inr_1 (List.mem_of_getElem? (i := 22) rfl)) (inr_1 (List.mem_of_getElem? (i := 23) rfl)) rfl df_X2 rfl rfl rfl rfl (Nat.le_of_ble_eq_true rfl) (Nat.le_of_ble_eq_true rfl) (fun H1 w1 => cb_runN (host := "TouchSheet") C w1 (LL := LL2) (by show b + (List.length ([] : List va_E) + 1) = _; rw [hl0]) C_X2 (inr_3 (List.mem_of_getElem? (i := 2) rfl)) (inr_1 (List.mem_of_getElem? (i := 23) rfl)) (inr_3 (List.mem_of_getElem? (i := 1) rfl)) (List.mem_of_getElem? (i := 5) rfl) rfl hd_X2_init (by decide) (by decide) hl.1 (Nat.le_of_ble_eq_true rfl) dX0_init_9 ⟨Nat.le_of_ble_eq_true rfl, Nat.le_of_ble_eq_true rfl⟩) dX0_init_5 dX0_init_8 (fun H locs K1 hK1 hl1 w => ?_)
  refine cb_put C w hz hl1 rfl inlX0 tyX0 tyX0_ok nmX0 0 (by decide) (inr_4 (List.mem_of_getElem? (i := 13) rfl)) rfl (ty := tyX0 0) (tyX0_ok 0 (by decide)) rfl rfl (Nat.le_of_ble_eq_true rfl) dX0_init_12 (fun H locs w => ?_)
  have w : ck_W D cy b (.inr (0, [.ref (b + 1), .null, .null, .int 0]) :: K1) s H locs := w
  refine lv_aload_n hx hb dX0_init_15 rfl (lv_at hl 0 rfl) ?_
  refine cb_mk (a := b + 3) (mc := 1) (ms := 24) (cells1 := 4) (slots1 := 50) (LL := LL2) C w hl1 inlX2 tyX2 tyX2_ok (inr_4 (List.mem_of_getElem? (i := 12) rfl)) (inr_1 (List.mem_of_getElem? (i := 22) rfl)) (inr_1 (List.mem_of_getElem? (i := 23) rfl)) rfl df_X2 rfl rfl rfl rfl (Nat.le_of_ble_eq_true rfl) (Nat.le_of_ble_eq_true rfl) (fun H1 w1 => cb_runN (host := "TouchSheet") C w1 (LL := LL2) (by show b + (List.length K1 + 1) = _; rw [hl1]) C_X2 (inr_3 (List.mem_of_getElem? (i := 2) rfl)) (inr_1 (List.mem_of_getElem? (i := 23) rfl)) (inr_3 (List.mem_of_getElem? (i := 1) rfl)) (List.mem_of_getElem? (i := 5) rfl) rfl hd_X2_init (by decide) (by decide) hl.1 (Nat.le_of_ble_eq_true rfl) dX0_init_20 ⟨Nat.le_of_ble_eq_true rfl, Nat.le_of_ble_eq_true rfl⟩) dX0_init_16 dX0_init_19 (fun H locs K2 hK2 hl2 w => ?_)
  refine cb_put C w hz hl2 rfl inlX0 tyX0 tyX0_ok nmX0 1 (by decide) (inr_4 (List.mem_of_getElem? (i := 14) rfl)) rfl (ty := tyX0 1) (tyX0_ok 1 (by decide)) rfl rfl (Nat.le_of_ble_eq_true rfl) dX0_init_23 (fun H locs w => ?_)
  have w : ck_W D cy b (.inr (0, [.ref (b + 1), .ref (b + 3), .null, .int 0]) :: K2) s H locs := w
  refine lv_aload_n hx hb dX0_init_26 rfl (lv_at hl 0 rfl) ?_
  refine lv_bipush (v := 12) hx hb dX0_init_27 (by decide) ?_
  refine lv_bipush (v := 6) hx hb dX0_init_29 (by decide) ?_
  refine cb_mna (N' := 12) (K' := 6) (a := b + 5) (cells1 := 17) (slots1 := 134) C w hl2 (inr_4 (List.mem_of_getElem? (i := 15) rfl)) (by decide) (by decide) (by decide) (by decide) (by decide) (by decide) rfl rfl rfl (Nat.le_of_ble_eq_true rfl) (Nat.le_of_ble_eq_true rfl) dX0_init_31 (fun H K3 hK3 hl3 w => ?_)
  refine cb_put C w hz hl3 rfl inlX0 tyX0 tyX0_ok nmX0 2 (by decide) (inr_4 (List.mem_of_getElem? (i := 16) rfl)) rfl (ty := tyX0 2) (tyX0_ok 2 (by decide)) rfl rfl (Nat.le_of_ble_eq_true rfl) dX0_init_35 (fun H locs w => ?_)
  have w : ck_W D cy b (.inr (0, [.ref (b + 1), .ref (b + 3), .ref (b + 5), .int 0]) :: K3) s H locs := w
  exact cb_ret C w (by subst hK1 hK2 hK3; rfl) rfl rfl dX0_init_38
