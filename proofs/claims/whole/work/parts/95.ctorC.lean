/-! the constructor of X1 -/
theorem df_X1 : ∀ j, j < 2 → defaultValue (tyX1 j) = vp_V [.null, .int 0] j := fun j hj => by
  match j, hj with
  | 0, _ => rfl
  | 1, _ => rfl
def LL1 (cy : Nat → ClassId) (b : Nat) : List va_E := .inr (1, [.ref (b + 1), .int 0]) :: (([] : List va_E) ++ [.inl (cy 0, 12, .inl (fun _ => 0))])
theorem hd_X1_init : yX1_init.cls ≠ "java/lang/invoke/MethodHandle" ∧ yX1_init.cls ≠ "java/lang/invoke/VarHandle" ∧ (parseMethodDescriptor yX1_init.desc).map (fun d => d.parameters.length) = some 0 := ⟨by decide, by decide, by decide +kernel⟩
set_option maxHeartbeats 8000000 in
set_option maxRecDepth 100000 in
theorem C_X1 : ck_C yX1_init cX1_init 1 1 1 12 (.inr (1, [.null, .int 0])) LL1 := by
  refine ck_entry (own := RX1) (by decide) rfl rfl (fun _ => Nat.le_of_ble_eq_true rfl) (fun p l e s m below meth c D cy b ls C w hz hl => ?_)
  obtain ⟨hx, hb, hml, hown, hts, hr, hlk, hnm⟩ := id C
  have hl0 : ([] : List va_E).length = 0 := rfl
  refine lv_aload_n hx hb dX1_init_0 rfl (lv_at hl 0 rfl) ?_
  refine cb_obj C (inr_3 (List.mem_of_getElem? (i := 12) rfl)) hl.1 dX1_init_1 ?_
  refine lv_aload_n hx hb dX1_init_4 rfl (lv_at hl 0 rfl) ?_
  refine lv_bipush (v := 12) hx hb dX1_init_5 (by decide) ?_
  refine cb_newa (N' := 12) (a := b + 1) (cells1 := 1) (slots1 := 12) C w hl0 (by decide) (by decide) (by decide) rfl rfl rfl (Nat.le_of_ble_eq_true rfl) (Nat.le_of_ble_eq_true rfl) dX1_init_7 (fun H K1 hK1 hl1 w => ?_)
  refine cb_put C w hz hl1 rfl inlX1 tyX1 tyX1_ok nmX1 0 (by decide) (inr_3 (List.mem_of_getElem? (i := 13) rfl)) rfl (ty := tyX1 0) (tyX1_ok 0 (by decide)) rfl rfl (Nat.le_of_ble_eq_true rfl) dX1_init_9 (fun H locs w => ?_)
  have w : ck_W D cy b (.inr (1, [.ref (b + 1), .int 0]) :: K1) s H locs := w
  exact cb_ret C w (by subst hK1; rfl) rfl rfl dX1_init_12
