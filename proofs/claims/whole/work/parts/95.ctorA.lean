/-! the constructor of X2 -/
theorem df_X2 : ∀ j, j < 1 → defaultValue (tyX2 j) = vp_V [.null] j := fun j hj => by
  match j, hj with
  | 0, _ => rfl
def LL2 (cy : Nat → ClassId) (b : Nat) : List va_E := .inr (2, [.ref (b + 1)]) :: (([] : List va_E) ++ [.inl (cy 0, 24, .inl (fun _ => 0))])
theorem hd_X2_init : yX2_init.cls ≠ "java/lang/invoke/MethodHandle" ∧ yX2_init.cls ≠ "java/lang/invoke/VarHandle" ∧ (parseMethodDescriptor yX2_init.desc).map (fun d => d.parameters.length) = some 0 := ⟨by decide, by decide, by decide +kernel⟩
set_option maxHeartbeats 8000000 in
set_option maxRecDepth 100000 in
theorem C_X2 : ck_C yX2_init cX2_init 1 1 1 24 (.inr (2, [.null])) LL2 := by
  refine ck_entry (own := RX2) (by decide) rfl rfl (fun _ => Nat.le_of_ble_eq_true rfl) (fun p l e s m below meth c D cy b ls C w hz hl => ?_)
  obtain ⟨hx, hb, hml, hown, hts, hr, hlk, hnm⟩ := id C
  have hl0 : ([] : List va_E).length = 0 := rfl
  refine lv_aload_n hx hb dX2_init_0 rfl (lv_at hl 0 rfl) ?_
  refine cb_obj C (inr_3 (List.mem_of_getElem? (i := 3) rfl)) hl.1 dX2_init_1 ?_
  refine lv_aload_n hx hb dX2_init_4 rfl (lv_at hl 0 rfl) ?_
  refine lv_bipush (v := 24) hx hb dX2_init_5 (by decide) ?_
  refine cb_newa (N' := 24) (a := b + 1) (cells1 := 1) (slots1 := 24) C w hl0 (by decide) (by decide) (by decide) rfl rfl rfl (Nat.le_of_ble_eq_true rfl) (Nat.le_of_ble_eq_true rfl) dX2_init_7 (fun H K1 hK1 hl1 w => ?_)
  refine cb_put C w hz hl1 rfl inlX2 tyX2 tyX2_ok nmX2 0 (by decide) (inr_3 (List.mem_of_getElem? (i := 4) rfl)) rfl (ty := tyX2 0) (tyX2_ok 0 (by decide)) rfl rfl (Nat.le_of_ble_eq_true rfl) dX2_init_9 (fun H locs w => ?_)
  have w : ck_W D cy b (.inr (2, [.ref (b + 1)]) :: K1) s H locs := w
  exact cb_ret C w (by subst hK1; rfl) rfl rfl dX2_init_12
