/-! the 25 cases -/
theorem hdl_X7_corner : yX7_corner.cls ≠ "java/lang/invoke/MethodHandle" ∧ yX7_corner.cls ≠ "java/lang/invoke/VarHandle" ∧ (parseMethodDescriptor yX7_corner.desc).map (fun d => d.parameters.length) = some 2 := ⟨by decide, by decide, by decide +kernel⟩
theorem hdl_X8_corner : yX8_corner.cls ≠ "java/lang/invoke/MethodHandle" ∧ yX8_corner.cls ≠ "java/lang/invoke/VarHandle" ∧ (parseMethodDescriptor yX8_corner.desc).map (fun d => d.parameters.length) = some 2 := ⟨by decide, by decide, by decide +kernel⟩
set_option maxHeartbeats 4000000 in
set_option maxRecDepth 100000 in
theorem lk_0 {p : Program} {l : Launch} {e : Env} {s : State} {m : MethodId} {args : Array Value} {below : List Frame} {meth : Method} {c : Code} {Z : State → Prop} {D : va_G} {cy : Nat → ClassId} {ad : Nat → Nat} {b L i : Nat} {xs : Nat → Int32} (X : lk_X p s m args c b L xs) (hi : i + 6 ≤ L) (kk : lk_K p l e s m args below meth c Z D cy ad i 905 b) : lk_K p l e s m args below meth c Z D cy ad i 148 b := by
  intro σ H locs ls hR w hl
  obtain ⟨hx, hb, hml, hown, hts, hX, hbl, hL⟩ := id X
  refine lv_aload_n hx hb dL_law_148 rfl (lv_at hl 2 rfl) ?_
  refine lv_aload_n hx hb dL_law_149 rfl (lv_at hl 3 rfl) ?_
  refine lv_iload_n hx hb dL_law_150 rfl (lv_at hl 0 rfl) ?_
  refine lv_iconst (v := 1) hx hb dL_law_151 (by decide) ?_
  refine lv_iadd hx hb dL_law_152 ?_
  refine lv_topi (fun z1 ez1 => ?_)
  obtain rfl : z1 = nI (i + 1) := ez1.trans (nI_add i 1)
  refine va_sld (A := fun q => s.heap.size ≤ q) (H0 := s.heap) hx hb hX hbl (Nat.not_le.mpr hbl) w.2.2.2.1 (by unfold vp_in; exact nI_in (c := i + 1) (N := L) (by omega) (by omega)) dL_law_153 ?_
  rw [nI_clamp (show i + 1 < 2 ^ 31 by omega)]
  refine lv_aload_n hx hb dL_law_154 rfl (lv_at hl 3 rfl) ?_
  refine lv_iload_n hx hb dL_law_155 rfl (lv_at hl 0 rfl) ?_
  refine lv_iconst (v := 2) hx hb dL_law_156 (by decide) ?_
  refine lv_iadd hx hb dL_law_157 ?_
  refine lv_topi (fun z2 ez2 => ?_)
  obtain rfl : z2 = nI (i + 2) := ez2.trans (nI_add i 2)
  refine va_sld (A := fun q => s.heap.size ≤ q) (H0 := s.heap) hx hb hX hbl (Nat.not_le.mpr hbl) w.2.2.2.1 (by unfold vp_in; exact nI_in (c := i + 2) (N := L) (by omega) (by omega)) dL_law_158 ?_
  rw [nI_clamp (show i + 2 < 2 ^ 31 by omega)]
  have h := step_corner 100 (xs (i + 1)) (xs (i + 2)) σ hR
  refine lc_call hx hb hml hown hts w (k := 0) rfl rfl (as := [aI (xs (i + 1)), aI (xs (i + 2))]) (rest := []) (inr_6 (List.mem_of_getElem? (i := 5) rfl)) (inr_1 (List.mem_of_getElem? (i := 2) rfl)) (inr_6 (List.mem_of_getElem? (i := 2) rfl)) (inr_6 (List.mem_of_getElem? (i := 3) rfl)) (inr_6 (List.mem_of_getElem? (i := 4) rfl)) hdl_X7_corner ⟨Nat.le_of_ble_eq_true rfl, Nat.le_of_ble_eq_true rfl⟩ ⟨Nat.le_of_ble_eq_true rfl, Nat.le_of_ble_eq_true rfl⟩ hl.1 (Nat.le_of_ble_eq_true rfl) rfl dL_law_159 h (fun r0 σ1 H locs hq w => ?_)
  obtain ⟨y0, rfl, h⟩ := hq
  refine W.eq (g2 := F0 m 162 ls [.int y0]) rfl ?_
  refine lv_aload_n hx hb dL_law_162 rfl (lv_at hl 1 rfl) ?_
  refine lv_aload_n hx hb dL_law_163 rfl (lv_at hl 3 rfl) ?_
  refine lv_iload_n hx hb dL_law_164 rfl (lv_at hl 0 rfl) ?_
  refine lv_iconst (v := 1) hx hb dL_law_165 (by decide) ?_
  refine lv_iadd hx hb dL_law_166 ?_
  refine lv_topi (fun z3 ez3 => ?_)
  obtain rfl : z3 = nI (i + 1) := ez3.trans (nI_add i 1)
  refine va_sld (A := fun q => s.heap.size ≤ q) (H0 := s.heap) hx hb hX hbl (Nat.not_le.mpr hbl) w.2.2.2.1 (by unfold vp_in; exact nI_in (c := i + 1) (N := L) (by omega) (by omega)) dL_law_167 ?_
  rw [nI_clamp (show i + 1 < 2 ^ 31 by omega)]
  refine lv_aload_n hx hb dL_law_168 rfl (lv_at hl 3 rfl) ?_
  refine lv_iload_n hx hb dL_law_169 rfl (lv_at hl 0 rfl) ?_
  refine lv_iconst (v := 2) hx hb dL_law_170 (by decide) ?_
  refine lv_iadd hx hb dL_law_171 ?_
  refine lv_topi (fun z4 ez4 => ?_)
  obtain rfl : z4 = nI (i + 2) := ez4.trans (nI_add i 2)
  refine va_sld (A := fun q => s.heap.size ≤ q) (H0 := s.heap) hx hb hX hbl (Nat.not_le.mpr hbl) w.2.2.2.1 (by unfold vp_in; exact nI_in (c := i + 2) (N := L) (by omega) (by omega)) dL_law_172 ?_
  rw [nI_clamp (show i + 2 < 2 ^ 31 by omega)]
  refine lc_call hx hb hml hown hts w (k := 132) rfl rfl (as := [aI (xs (i + 1)), aI (xs (i + 2))]) (rest := [.int y0]) (inr_6 (List.mem_of_getElem? (i := 13) rfl)) (inr_1 (List.mem_of_getElem? (i := 5) rfl)) (inr_6 (List.mem_of_getElem? (i := 10) rfl)) (inr_6 (List.mem_of_getElem? (i := 11) rfl)) (inr_6 (List.mem_of_getElem? (i := 12) rfl)) hdl_X8_corner ⟨Nat.le_of_ble_eq_true rfl, Nat.le_of_ble_eq_true rfl⟩ ⟨Nat.le_of_ble_eq_true rfl, Nat.le_of_ble_eq_true rfl⟩ hl.1 (Nat.le_of_ble_eq_true rfl) rfl dL_law_173 h (fun r1 σ2 H locs hq w => ?_)
  obtain ⟨y1, rfl, h⟩ := hq
  refine W.eq (g2 := F0 m 176 ls [.int y1, .int y0]) rfl ?_
  exact lv_icmp_eq (tgt := 905) hx hb dL_law_176 (by decide) (fun _ => kk _ _ _ _ h.2 w hl) (fun q => absurd h.1 q)
theorem hdl_X7_line : yX7_line.cls ≠ "java/lang/invoke/MethodHandle" ∧ yX7_line.cls ≠ "java/lang/invoke/VarHandle" ∧ (parseMethodDescriptor yX7_line.desc).map (fun d => d.parameters.length) = some 1 := ⟨by decide, by decide, by decide +kernel⟩
theorem hdl_X8_line : yX8_line.cls ≠ "java/lang/invoke/MethodHandle" ∧ yX8_line.cls ≠ "java/lang/invoke/VarHandle" ∧ (parseMethodDescriptor yX8_line.desc).map (fun d => d.parameters.length) = some 1 := ⟨by decide, by decide, by decide +kernel⟩
set_option maxHeartbeats 4000000 in
set_option maxRecDepth 100000 in
theorem lk_1 {p : Program} {l : Launch} {e : Env} {s : State} {m : MethodId} {args : Array Value} {below : List Frame} {meth : Method} {c : Code} {Z : State → Prop} {D : va_G} {cy : Nat → ClassId} {ad : Nat → Nat} {b L i : Nat} {xs : Nat → Int32} (X : lk_X p s m args c b L xs) (hi : i + 6 ≤ L) (kk : lk_K p l e s m args below meth c Z D cy ad i 905 b) : lk_K p l e s m args below meth c Z D cy ad i 181 b := by
  intro σ H locs ls hR w hl
  obtain ⟨hx, hb, hml, hown, hts, hX, hbl, hL⟩ := id X
  refine lv_aload_n hx hb dL_law_181 rfl (lv_at hl 2 rfl) ?_
  refine lv_aload_n hx hb dL_law_182 rfl (lv_at hl 3 rfl) ?_
  refine lv_iload_n hx hb dL_law_183 rfl (lv_at hl 0 rfl) ?_
  refine lv_iconst (v := 1) hx hb dL_law_184 (by decide) ?_
  refine lv_iadd hx hb dL_law_185 ?_
  refine lv_topi (fun z1 ez1 => ?_)
  obtain rfl : z1 = nI (i + 1) := ez1.trans (nI_add i 1)
  refine va_sld (A := fun q => s.heap.size ≤ q) (H0 := s.heap) hx hb hX hbl (Nat.not_le.mpr hbl) w.2.2.2.1 (by unfold vp_in; exact nI_in (c := i + 1) (N := L) (by omega) (by omega)) dL_law_186 ?_
  rw [nI_clamp (show i + 1 < 2 ^ 31 by omega)]
  have h := step_line 100 (xs (i + 1)) σ hR
  refine lc_call hx hb hml hown hts w (k := 0) rfl rfl (as := [aI (xs (i + 1))]) (rest := []) (inr_7 (List.mem_of_getElem? (i := 0) rfl)) (inr_1 (List.mem_of_getElem? (i := 2) rfl)) (inr_6 (List.mem_of_getElem? (i := 21) rfl)) (inr_6 (List.mem_of_getElem? (i := 22) rfl)) (inr_6 (List.mem_of_getElem? (i := 23) rfl)) hdl_X7_line ⟨Nat.le_of_ble_eq_true rfl, Nat.le_of_ble_eq_true rfl⟩ ⟨Nat.le_of_ble_eq_true rfl, Nat.le_of_ble_eq_true rfl⟩ hl.1 (Nat.le_of_ble_eq_true rfl) rfl dL_law_187 h (fun r0 σ1 H locs hq w => ?_)
  obtain ⟨y0, rfl, h⟩ := hq
  refine W.eq (g2 := F0 m 190 ls [.int y0]) rfl ?_
  refine lv_aload_n hx hb dL_law_190 rfl (lv_at hl 1 rfl) ?_
  refine lv_aload_n hx hb dL_law_191 rfl (lv_at hl 3 rfl) ?_
  refine lv_iload_n hx hb dL_law_192 rfl (lv_at hl 0 rfl) ?_
  refine lv_iconst (v := 1) hx hb dL_law_193 (by decide) ?_
  refine lv_iadd hx hb dL_law_194 ?_
  refine lv_topi (fun z2 ez2 => ?_)
  obtain rfl : z2 = nI (i + 1) := ez2.trans (nI_add i 1)
  refine va_sld (A := fun q => s.heap.size ≤ q) (H0 := s.heap) hx hb hX hbl (Nat.not_le.mpr hbl) w.2.2.2.1 (by unfold vp_in; exact nI_in (c := i + 1) (N := L) (by omega) (by omega)) dL_law_195 ?_
  rw [nI_clamp (show i + 1 < 2 ^ 31 by omega)]
  refine lc_call hx hb hml hown hts w (k := 132) rfl rfl (as := [aI (xs (i + 1))]) (rest := [.int y0]) (inr_10 (List.mem_of_getElem? (i := 23) rfl)) (inr_1 (List.mem_of_getElem? (i := 5) rfl)) (inr_10 (List.mem_of_getElem? (i := 20) rfl)) (inr_10 (List.mem_of_getElem? (i := 21) rfl)) (inr_10 (List.mem_of_getElem? (i := 22) rfl)) hdl_X8_line ⟨Nat.le_of_ble_eq_true rfl, Nat.le_of_ble_eq_true rfl⟩ ⟨Nat.le_of_ble_eq_true rfl, Nat.le_of_ble_eq_true rfl⟩ hl.1 (Nat.le_of_ble_eq_true rfl) rfl dL_law_196 h (fun r1 σ2 H locs hq w => ?_)
  obtain ⟨y1, rfl, h⟩ := hq
  refine W.eq (g2 := F0 m 199 ls [.int y1, .int y0]) rfl ?_
  exact lv_icmp_eq (tgt := 905) hx hb dL_law_199 (by decide) (fun _ => kk _ _ _ _ h.2 w hl) (fun q => absurd h.1 q)
theorem hdl_X7_ground : yX7_ground.cls ≠ "java/lang/invoke/MethodHandle" ∧ yX7_ground.cls ≠ "java/lang/invoke/VarHandle" ∧ (parseMethodDescriptor yX7_ground.desc).map (fun d => d.parameters.length) = some 5 := ⟨by decide, by decide, by decide +kernel⟩
theorem hdl_X8_ground : yX8_ground.cls ≠ "java/lang/invoke/MethodHandle" ∧ yX8_ground.cls ≠ "java/lang/invoke/VarHandle" ∧ (parseMethodDescriptor yX8_ground.desc).map (fun d => d.parameters.length) = some 5 := ⟨by decide, by decide, by decide +kernel⟩
set_option maxHeartbeats 4000000 in
set_option maxRecDepth 100000 in
theorem lk_2 {p : Program} {l : Launch} {e : Env} {s : State} {m : MethodId} {args : Array Value} {below : List Frame} {meth : Method} {c : Code} {Z : State → Prop} {D : va_G} {cy : Nat → ClassId} {ad : Nat → Nat} {b L i : Nat} {xs : Nat → Int32} (X : lk_X p s m args c b L xs) (hi : i + 6 ≤ L) (kk : lk_K p l e s m args below meth c Z D cy ad i 905 b) : lk_K p l e s m args below meth c Z D cy ad i 204 b := by
  intro σ H locs ls hR w hl
  obtain ⟨hx, hb, hml, hown, hts, hX, hbl, hL⟩ := id X
  refine lv_aload_n hx hb dL_law_204 rfl (lv_at hl 2 rfl) ?_
  refine lv_aload_n hx hb dL_law_205 rfl (lv_at hl 3 rfl) ?_
  refine lv_iload_n hx hb dL_law_206 rfl (lv_at hl 0 rfl) ?_
  refine lv_iconst (v := 1) hx hb dL_law_207 (by decide) ?_
  refine lv_iadd hx hb dL_law_208 ?_
  refine lv_topi (fun z1 ez1 => ?_)
  obtain rfl : z1 = nI (i + 1) := ez1.trans (nI_add i 1)
  refine va_sld (A := fun q => s.heap.size ≤ q) (H0 := s.heap) hx hb hX hbl (Nat.not_le.mpr hbl) w.2.2.2.1 (by unfold vp_in; exact nI_in (c := i + 1) (N := L) (by omega) (by omega)) dL_law_209 ?_
  rw [nI_clamp (show i + 1 < 2 ^ 31 by omega)]
  refine lv_aload_n hx hb dL_law_210 rfl (lv_at hl 3 rfl) ?_
  refine lv_iload_n hx hb dL_law_211 rfl (lv_at hl 0 rfl) ?_
  refine lv_iconst (v := 2) hx hb dL_law_212 (by decide) ?_
  refine lv_iadd hx hb dL_law_213 ?_
  refine lv_topi (fun z2 ez2 => ?_)
  obtain rfl : z2 = nI (i + 2) := ez2.trans (nI_add i 2)
  refine va_sld (A := fun q => s.heap.size ≤ q) (H0 := s.heap) hx hb hX hbl (Nat.not_le.mpr hbl) w.2.2.2.1 (by unfold vp_in; exact nI_in (c := i + 2) (N := L) (by omega) (by omega)) dL_law_214 ?_
  rw [nI_clamp (show i + 2 < 2 ^ 31 by omega)]
  refine lv_aload_n hx hb dL_law_215 rfl (lv_at hl 3 rfl) ?_
  refine lv_iload_n hx hb dL_law_216 rfl (lv_at hl 0 rfl) ?_
  refine lv_iconst (v := 3) hx hb dL_law_217 (by decide) ?_
  refine lv_iadd hx hb dL_law_218 ?_
  refine lv_topi (fun z3 ez3 => ?_)
  obtain rfl : z3 = nI (i + 3) := ez3.trans (nI_add i 3)
  refine va_sld (A := fun q => s.heap.size ≤ q) (H0 := s.heap) hx hb hX hbl (Nat.not_le.mpr hbl) w.2.2.2.1 (by unfold vp_in; exact nI_in (c := i + 3) (N := L) (by omega) (by omega)) dL_law_219 ?_
  rw [nI_clamp (show i + 3 < 2 ^ 31 by omega)]
  refine lv_aload_n hx hb dL_law_220 rfl (lv_at hl 3 rfl) ?_
  refine lv_iload_n hx hb dL_law_221 rfl (lv_at hl 0 rfl) ?_
  refine lv_iconst (v := 4) hx hb dL_law_222 (by decide) ?_
  refine lv_iadd hx hb dL_law_223 ?_
  refine lv_topi (fun z4 ez4 => ?_)
  obtain rfl : z4 = nI (i + 4) := ez4.trans (nI_add i 4)
  refine va_sld (A := fun q => s.heap.size ≤ q) (H0 := s.heap) hx hb hX hbl (Nat.not_le.mpr hbl) w.2.2.2.1 (by unfold vp_in; exact nI_in (c := i + 4) (N := L) (by omega) (by omega)) dL_law_224 ?_
  rw [nI_clamp (show i + 4 < 2 ^ 31 by omega)]
  refine lv_aload_n hx hb dL_law_225 rfl (lv_at hl 3 rfl) ?_
  refine lv_iload_n hx hb dL_law_226 rfl (lv_at hl 0 rfl) ?_
  refine lv_iconst (v := 5) hx hb dL_law_227 (by decide) ?_
  refine lv_iadd hx hb dL_law_228 ?_
  refine lv_topi (fun z5 ez5 => ?_)
  obtain rfl : z5 = nI (i + 5) := ez5.trans (nI_add i 5)
  refine va_sld (A := fun q => s.heap.size ≤ q) (H0 := s.heap) hx hb hX hbl (Nat.not_le.mpr hbl) w.2.2.2.1 (by unfold vp_in; exact nI_in (c := i + 5) (N := L) (by omega) (by omega)) dL_law_229 ?_
  rw [nI_clamp (show i + 5 < 2 ^ 31 by omega)]
  have h := step_ground 100 (xs (i + 1)) (xs (i + 2)) (xs (i + 3)) (xs (i + 4)) (xs (i + 5)) σ hR
  refine lc_call hx hb hml hown hts w (k := 0) rfl rfl (as := [aI (xs (i + 1)), aI (xs (i + 2)), aI (xs (i + 3)), aI (xs (i + 4)), aI (xs (i + 5))]) (rest := []) (inr_12 (List.mem_of_getElem? (i := 6) rfl)) (inr_1 (List.mem_of_getElem? (i := 2) rfl)) (inr_12 (List.mem_of_getElem? (i := 3) rfl)) (inr_12 (List.mem_of_getElem? (i := 4) rfl)) (inr_12 (List.mem_of_getElem? (i := 5) rfl)) hdl_X7_ground ⟨Nat.le_of_ble_eq_true rfl, Nat.le_of_ble_eq_true rfl⟩ ⟨Nat.le_of_ble_eq_true rfl, Nat.le_of_ble_eq_true rfl⟩ hl.1 (Nat.le_of_ble_eq_true rfl) rfl dL_law_230 h (fun r0 σ1 H locs hq w => ?_)
  obtain ⟨y0, rfl, h⟩ := hq
  refine W.eq (g2 := F0 m 233 ls [.int y0]) rfl ?_
  refine lv_aload_n hx hb dL_law_233 rfl (lv_at hl 1 rfl) ?_
  refine lv_aload_n hx hb dL_law_234 rfl (lv_at hl 3 rfl) ?_
  refine lv_iload_n hx hb dL_law_235 rfl (lv_at hl 0 rfl) ?_
  refine lv_iconst (v := 1) hx hb dL_law_236 (by decide) ?_
  refine lv_iadd hx hb dL_law_237 ?_
  refine lv_topi (fun z6 ez6 => ?_)
  obtain rfl : z6 = nI (i + 1) := ez6.trans (nI_add i 1)
  refine va_sld (A := fun q => s.heap.size ≤ q) (H0 := s.heap) hx hb hX hbl (Nat.not_le.mpr hbl) w.2.2.2.1 (by unfold vp_in; exact nI_in (c := i + 1) (N := L) (by omega) (by omega)) dL_law_238 ?_
  rw [nI_clamp (show i + 1 < 2 ^ 31 by omega)]
  refine lv_aload_n hx hb dL_law_239 rfl (lv_at hl 3 rfl) ?_
  refine lv_iload_n hx hb dL_law_240 rfl (lv_at hl 0 rfl) ?_
  refine lv_iconst (v := 2) hx hb dL_law_241 (by decide) ?_
  refine lv_iadd hx hb dL_law_242 ?_
  refine lv_topi (fun z7 ez7 => ?_)
  obtain rfl : z7 = nI (i + 2) := ez7.trans (nI_add i 2)
  refine va_sld (A := fun q => s.heap.size ≤ q) (H0 := s.heap) hx hb hX hbl (Nat.not_le.mpr hbl) w.2.2.2.1 (by unfold vp_in; exact nI_in (c := i + 2) (N := L) (by omega) (by omega)) dL_law_243 ?_
  rw [nI_clamp (show i + 2 < 2 ^ 31 by omega)]
  refine lv_aload_n hx hb dL_law_244 rfl (lv_at hl 3 rfl) ?_
  refine lv_iload_n hx hb dL_law_245 rfl (lv_at hl 0 rfl) ?_
  refine lv_iconst (v := 3) hx hb dL_law_246 (by decide) ?_
  refine lv_iadd hx hb dL_law_247 ?_
  refine lv_topi (fun z8 ez8 => ?_)
  obtain rfl : z8 = nI (i + 3) := ez8.trans (nI_add i 3)
  refine va_sld (A := fun q => s.heap.size ≤ q) (H0 := s.heap) hx hb hX hbl (Nat.not_le.mpr hbl) w.2.2.2.1 (by unfold vp_in; exact nI_in (c := i + 3) (N := L) (by omega) (by omega)) dL_law_248 ?_
  rw [nI_clamp (show i + 3 < 2 ^ 31 by omega)]
  refine lv_aload_n hx hb dL_law_249 rfl (lv_at hl 3 rfl) ?_
  refine lv_iload_n hx hb dL_law_250 rfl (lv_at hl 0 rfl) ?_
  refine lv_iconst (v := 4) hx hb dL_law_251 (by decide) ?_
  refine lv_iadd hx hb dL_law_252 ?_
  refine lv_topi (fun z9 ez9 => ?_)
  obtain rfl : z9 = nI (i + 4) := ez9.trans (nI_add i 4)
  refine va_sld (A := fun q => s.heap.size ≤ q) (H0 := s.heap) hx hb hX hbl (Nat.not_le.mpr hbl) w.2.2.2.1 (by unfold vp_in; exact nI_in (c := i + 4) (N := L) (by omega) (by omega)) dL_law_253 ?_
  rw [nI_clamp (show i + 4 < 2 ^ 31 by omega)]
  refine lv_aload_n hx hb dL_law_254 rfl (lv_at hl 3 rfl) ?_
  refine lv_iload_n hx hb dL_law_255 rfl (lv_at hl 0 rfl) ?_
  refine lv_iconst (v := 5) hx hb dL_law_256 (by decide) ?_
  refine lv_iadd hx hb dL_law_257 ?_
  refine lv_topi (fun z10 ez10 => ?_)
  obtain rfl : z10 = nI (i + 5) := ez10.trans (nI_add i 5)
  refine va_sld (A := fun q => s.heap.size ≤ q) (H0 := s.heap) hx hb hX hbl (Nat.not_le.mpr hbl) w.2.2.2.1 (by unfold vp_in; exact nI_in (c := i + 5) (N := L) (by omega) (by omega)) dL_law_258 ?_
  rw [nI_clamp (show i + 5 < 2 ^ 31 by omega)]
  refine lc_call hx hb hml hown hts w (k := 132) rfl rfl (as := [aI (xs (i + 1)), aI (xs (i + 2)), aI (xs (i + 3)), aI (xs (i + 4)), aI (xs (i + 5))]) (rest := [.int y0]) (inr_12 (List.mem_of_getElem? (i := 10) rfl)) (inr_1 (List.mem_of_getElem? (i := 5) rfl)) (inr_12 (List.mem_of_getElem? (i := 7) rfl)) (inr_12 (List.mem_of_getElem? (i := 8) rfl)) (inr_12 (List.mem_of_getElem? (i := 9) rfl)) hdl_X8_ground ⟨Nat.le_of_ble_eq_true rfl, Nat.le_of_ble_eq_true rfl⟩ ⟨Nat.le_of_ble_eq_true rfl, Nat.le_of_ble_eq_true rfl⟩ hl.1 (Nat.le_of_ble_eq_true rfl) rfl dL_law_259 h (fun r1 σ2 H locs hq w => ?_)
  obtain ⟨y1, rfl, h⟩ := hq
  refine W.eq (g2 := F0 m 262 ls [.int y1, .int y0]) rfl ?_
  exact lv_icmp_eq (tgt := 905) hx hb dL_law_262 (by decide) (fun _ => kk _ _ _ _ h.2 w hl) (fun q => absurd h.1 q)
theorem hdl_X7_mark : yX7_mark.cls ≠ "java/lang/invoke/MethodHandle" ∧ yX7_mark.cls ≠ "java/lang/invoke/VarHandle" ∧ (parseMethodDescriptor yX7_mark.desc).map (fun d => d.parameters.length) = some 3 := ⟨by decide, by decide, by decide +kernel⟩
theorem hdl_X8_mark : yX8_mark.cls ≠ "java/lang/invoke/MethodHandle" ∧ yX8_mark.cls ≠ "java/lang/invoke/VarHandle" ∧ (parseMethodDescriptor yX8_mark.desc).map (fun d => d.parameters.length) = some 3 := ⟨by decide, by decide, by decide +kernel⟩
set_option maxHeartbeats 4000000 in
set_option maxRecDepth 100000 in
theorem lk_3 {p : Program} {l : Launch} {e : Env} {s : State} {m : MethodId} {args : Array Value} {below : List Frame} {meth : Method} {c : Code} {Z : State → Prop} {D : va_G} {cy : Nat → ClassId} {ad : Nat → Nat} {b L i : Nat} {xs : Nat → Int32} (X : lk_X p s m args c b L xs) (hi : i + 6 ≤ L) (kk : lk_K p l e s m args below meth c Z D cy ad i 905 b) : lk_K p l e s m args below meth c Z D cy ad i 267 b := by
  intro σ H locs ls hR w hl
  obtain ⟨hx, hb, hml, hown, hts, hX, hbl, hL⟩ := id X
  refine lv_aload_n hx hb dL_law_267 rfl (lv_at hl 2 rfl) ?_
  refine lv_aload_n hx hb dL_law_268 rfl (lv_at hl 3 rfl) ?_
  refine lv_iload_n hx hb dL_law_269 rfl (lv_at hl 0 rfl) ?_
  refine lv_iconst (v := 1) hx hb dL_law_270 (by decide) ?_
  refine lv_iadd hx hb dL_law_271 ?_
  refine lv_topi (fun z1 ez1 => ?_)
  obtain rfl : z1 = nI (i + 1) := ez1.trans (nI_add i 1)
  refine va_sld (A := fun q => s.heap.size ≤ q) (H0 := s.heap) hx hb hX hbl (Nat.not_le.mpr hbl) w.2.2.2.1 (by unfold vp_in; exact nI_in (c := i + 1) (N := L) (by omega) (by omega)) dL_law_272 ?_
  rw [nI_clamp (show i + 1 < 2 ^ 31 by omega)]
  refine lv_aload_n hx hb dL_law_273 rfl (lv_at hl 3 rfl) ?_
  refine lv_iload_n hx hb dL_law_274 rfl (lv_at hl 0 rfl) ?_
  refine lv_iconst (v := 2) hx hb dL_law_275 (by decide) ?_
  refine lv_iadd hx hb dL_law_276 ?_
  refine lv_topi (fun z2 ez2 => ?_)
  obtain rfl : z2 = nI (i + 2) := ez2.trans (nI_add i 2)
  refine va_sld (A := fun q => s.heap.size ≤ q) (H0 := s.heap) hx hb hX hbl (Nat.not_le.mpr hbl) w.2.2.2.1 (by unfold vp_in; exact nI_in (c := i + 2) (N := L) (by omega) (by omega)) dL_law_277 ?_
  rw [nI_clamp (show i + 2 < 2 ^ 31 by omega)]
  refine lv_aload_n hx hb dL_law_278 rfl (lv_at hl 3 rfl) ?_
  refine lv_iload_n hx hb dL_law_279 rfl (lv_at hl 0 rfl) ?_
  refine lv_iconst (v := 3) hx hb dL_law_280 (by decide) ?_
  refine lv_iadd hx hb dL_law_281 ?_
  refine lv_topi (fun z3 ez3 => ?_)
  obtain rfl : z3 = nI (i + 3) := ez3.trans (nI_add i 3)
  refine va_sld (A := fun q => s.heap.size ≤ q) (H0 := s.heap) hx hb hX hbl (Nat.not_le.mpr hbl) w.2.2.2.1 (by unfold vp_in; exact nI_in (c := i + 3) (N := L) (by omega) (by omega)) dL_law_282 ?_
  rw [nI_clamp (show i + 3 < 2 ^ 31 by omega)]
  have h := step_mark 100 (xs (i + 1)) (xs (i + 2)) (xs (i + 3)) σ hR
  refine lc_call hx hb hml hown hts w (k := 0) rfl rfl (as := [aI (xs (i + 1)), aI (xs (i + 2)), aI (xs (i + 3))]) (rest := []) (inr_12 (List.mem_of_getElem? (i := 14) rfl)) (inr_1 (List.mem_of_getElem? (i := 2) rfl)) (inr_12 (List.mem_of_getElem? (i := 11) rfl)) (inr_12 (List.mem_of_getElem? (i := 12) rfl)) (inr_12 (List.mem_of_getElem? (i := 13) rfl)) hdl_X7_mark ⟨Nat.le_of_ble_eq_true rfl, Nat.le_of_ble_eq_true rfl⟩ ⟨Nat.le_of_ble_eq_true rfl, Nat.le_of_ble_eq_true rfl⟩ hl.1 (Nat.le_of_ble_eq_true rfl) rfl dL_law_283 h (fun r0 σ1 H locs hq w => ?_)
  obtain ⟨y0, rfl, h⟩ := hq
  refine W.eq (g2 := F0 m 286 ls [.int y0]) rfl ?_
  refine lv_aload_n hx hb dL_law_286 rfl (lv_at hl 1 rfl) ?_
  refine lv_aload_n hx hb dL_law_287 rfl (lv_at hl 3 rfl) ?_
  refine lv_iload_n hx hb dL_law_288 rfl (lv_at hl 0 rfl) ?_
  refine lv_iconst (v := 1) hx hb dL_law_289 (by decide) ?_
  refine lv_iadd hx hb dL_law_290 ?_
  refine lv_topi (fun z4 ez4 => ?_)
  obtain rfl : z4 = nI (i + 1) := ez4.trans (nI_add i 1)
  refine va_sld (A := fun q => s.heap.size ≤ q) (H0 := s.heap) hx hb hX hbl (Nat.not_le.mpr hbl) w.2.2.2.1 (by unfold vp_in; exact nI_in (c := i + 1) (N := L) (by omega) (by omega)) dL_law_291 ?_
  rw [nI_clamp (show i + 1 < 2 ^ 31 by omega)]
  refine lv_aload_n hx hb dL_law_292 rfl (lv_at hl 3 rfl) ?_
  refine lv_iload_n hx hb dL_law_293 rfl (lv_at hl 0 rfl) ?_
  refine lv_iconst (v := 2) hx hb dL_law_294 (by decide) ?_
  refine lv_iadd hx hb dL_law_295 ?_
  refine lv_topi (fun z5 ez5 => ?_)
  obtain rfl : z5 = nI (i + 2) := ez5.trans (nI_add i 2)
  refine va_sld (A := fun q => s.heap.size ≤ q) (H0 := s.heap) hx hb hX hbl (Nat.not_le.mpr hbl) w.2.2.2.1 (by unfold vp_in; exact nI_in (c := i + 2) (N := L) (by omega) (by omega)) dL_law_296 ?_
  rw [nI_clamp (show i + 2 < 2 ^ 31 by omega)]
  refine lv_aload_n hx hb dL_law_297 rfl (lv_at hl 3 rfl) ?_
  refine lv_iload_n hx hb dL_law_298 rfl (lv_at hl 0 rfl) ?_
  refine lv_iconst (v := 3) hx hb dL_law_299 (by decide) ?_
  refine lv_iadd hx hb dL_law_300 ?_
  refine lv_topi (fun z6 ez6 => ?_)
  obtain rfl : z6 = nI (i + 3) := ez6.trans (nI_add i 3)
  refine va_sld (A := fun q => s.heap.size ≤ q) (H0 := s.heap) hx hb hX hbl (Nat.not_le.mpr hbl) w.2.2.2.1 (by unfold vp_in; exact nI_in (c := i + 3) (N := L) (by omega) (by omega)) dL_law_301 ?_
  rw [nI_clamp (show i + 3 < 2 ^ 31 by omega)]
  refine lc_call hx hb hml hown hts w (k := 132) rfl rfl (as := [aI (xs (i + 1)), aI (xs (i + 2)), aI (xs (i + 3))]) (rest := [.int y0]) (inr_12 (List.mem_of_getElem? (i := 18) rfl)) (inr_1 (List.mem_of_getElem? (i := 5) rfl)) (inr_12 (List.mem_of_getElem? (i := 15) rfl)) (inr_12 (List.mem_of_getElem? (i := 16) rfl)) (inr_12 (List.mem_of_getElem? (i := 17) rfl)) hdl_X8_mark ⟨Nat.le_of_ble_eq_true rfl, Nat.le_of_ble_eq_true rfl⟩ ⟨Nat.le_of_ble_eq_true rfl, Nat.le_of_ble_eq_true rfl⟩ hl.1 (Nat.le_of_ble_eq_true rfl) rfl dL_law_302 h (fun r1 σ2 H locs hq w => ?_)
  obtain ⟨y1, rfl, h⟩ := hq
  refine W.eq (g2 := F0 m 305 ls [.int y1, .int y0]) rfl ?_
  exact lv_icmp_eq (tgt := 905) hx hb dL_law_305 (by decide) (fun _ => kk _ _ _ _ h.2 w hl) (fun q => absurd h.1 q)
theorem hdl_X7_undo : yX7_undo.cls ≠ "java/lang/invoke/MethodHandle" ∧ yX7_undo.cls ≠ "java/lang/invoke/VarHandle" ∧ (parseMethodDescriptor yX7_undo.desc).map (fun d => d.parameters.length) = some 0 := ⟨by decide, by decide, by decide +kernel⟩
theorem hdl_X8_undo : yX8_undo.cls ≠ "java/lang/invoke/MethodHandle" ∧ yX8_undo.cls ≠ "java/lang/invoke/VarHandle" ∧ (parseMethodDescriptor yX8_undo.desc).map (fun d => d.parameters.length) = some 0 := ⟨by decide, by decide, by decide +kernel⟩
set_option maxHeartbeats 4000000 in
set_option maxRecDepth 100000 in
theorem lk_4 {p : Program} {l : Launch} {e : Env} {s : State} {m : MethodId} {args : Array Value} {below : List Frame} {meth : Method} {c : Code} {Z : State → Prop} {D : va_G} {cy : Nat → ClassId} {ad : Nat → Nat} {b L i : Nat} {xs : Nat → Int32} (X : lk_X p s m args c b L xs) (hi : i + 6 ≤ L) (kk : lk_K p l e s m args below meth c Z D cy ad i 905 b) : lk_K p l e s m args below meth c Z D cy ad i 310 b := by
  intro σ H locs ls hR w hl
  obtain ⟨hx, hb, hml, hown, hts, hX, hbl, hL⟩ := id X
  refine lv_aload_n hx hb dL_law_310 rfl (lv_at hl 2 rfl) ?_
  have h := step_undo 100  σ hR
  refine lc_call hx hb hml hown hts w (k := 0) rfl rfl (as := []) (rest := []) (inr_12 (List.mem_of_getElem? (i := 22) rfl)) (inr_1 (List.mem_of_getElem? (i := 2) rfl)) (inr_12 (List.mem_of_getElem? (i := 19) rfl)) (inr_12 (List.mem_of_getElem? (i := 20) rfl)) (inr_12 (List.mem_of_getElem? (i := 21) rfl)) hdl_X7_undo ⟨Nat.le_of_ble_eq_true rfl, Nat.le_of_ble_eq_true rfl⟩ ⟨Nat.le_of_ble_eq_true rfl, Nat.le_of_ble_eq_true rfl⟩ hl.1 (Nat.le_of_ble_eq_true rfl) rfl dL_law_311 h (fun r0 σ1 H locs hq w => ?_)
  obtain ⟨y0, rfl, h⟩ := hq
  refine W.eq (g2 := F0 m 314 ls [.int y0]) rfl ?_
  refine lv_aload_n hx hb dL_law_314 rfl (lv_at hl 1 rfl) ?_
  refine lc_call hx hb hml hown hts w (k := 132) rfl rfl (as := []) (rest := [.int y0]) (inr_13 (List.mem_of_getElem? (i := 2) rfl)) (inr_1 (List.mem_of_getElem? (i := 5) rfl)) (inr_12 (List.mem_of_getElem? (i := 23) rfl)) (inr_13 (List.mem_of_getElem? (i := 0) rfl)) (inr_13 (List.mem_of_getElem? (i := 1) rfl)) hdl_X8_undo ⟨Nat.le_of_ble_eq_true rfl, Nat.le_of_ble_eq_true rfl⟩ ⟨Nat.le_of_ble_eq_true rfl, Nat.le_of_ble_eq_true rfl⟩ hl.1 (Nat.le_of_ble_eq_true rfl) rfl dL_law_315 h (fun r1 σ2 H locs hq w => ?_)
  obtain ⟨y1, rfl, h⟩ := hq
  refine W.eq (g2 := F0 m 318 ls [.int y1, .int y0]) rfl ?_
  exact lv_icmp_eq (tgt := 905) hx hb dL_law_318 (by decide) (fun _ => kk _ _ _ _ h.2 w hl) (fun q => absurd h.1 q)
theorem hdl_X7_gap : yX7_gap.cls ≠ "java/lang/invoke/MethodHandle" ∧ yX7_gap.cls ≠ "java/lang/invoke/VarHandle" ∧ (parseMethodDescriptor yX7_gap.desc).map (fun d => d.parameters.length) = some 1 := ⟨by decide, by decide, by decide +kernel⟩
theorem hdl_X8_gap : yX8_gap.cls ≠ "java/lang/invoke/MethodHandle" ∧ yX8_gap.cls ≠ "java/lang/invoke/VarHandle" ∧ (parseMethodDescriptor yX8_gap.desc).map (fun d => d.parameters.length) = some 1 := ⟨by decide, by decide, by decide +kernel⟩
set_option maxHeartbeats 4000000 in
set_option maxRecDepth 100000 in
theorem lk_5 {p : Program} {l : Launch} {e : Env} {s : State} {m : MethodId} {args : Array Value} {below : List Frame} {meth : Method} {c : Code} {Z : State → Prop} {D : va_G} {cy : Nat → ClassId} {ad : Nat → Nat} {b L i : Nat} {xs : Nat → Int32} (X : lk_X p s m args c b L xs) (hi : i + 6 ≤ L) (kk : lk_K p l e s m args below meth c Z D cy ad i 905 b) : lk_K p l e s m args below meth c Z D cy ad i 323 b := by
  intro σ H locs ls hR w hl
  obtain ⟨hx, hb, hml, hown, hts, hX, hbl, hL⟩ := id X
  refine lv_aload_n hx hb dL_law_323 rfl (lv_at hl 2 rfl) ?_
  refine lv_aload_n hx hb dL_law_324 rfl (lv_at hl 3 rfl) ?_
  refine lv_iload_n hx hb dL_law_325 rfl (lv_at hl 0 rfl) ?_
  refine lv_iconst (v := 1) hx hb dL_law_326 (by decide) ?_
  refine lv_iadd hx hb dL_law_327 ?_
  refine lv_topi (fun z1 ez1 => ?_)
  obtain rfl : z1 = nI (i + 1) := ez1.trans (nI_add i 1)
  refine va_sld (A := fun q => s.heap.size ≤ q) (H0 := s.heap) hx hb hX hbl (Nat.not_le.mpr hbl) w.2.2.2.1 (by unfold vp_in; exact nI_in (c := i + 1) (N := L) (by omega) (by omega)) dL_law_328 ?_
  rw [nI_clamp (show i + 1 < 2 ^ 31 by omega)]
  have h := step_gap 100 (xs (i + 1)) σ hR
  refine lc_call hx hb hml hown hts w (k := 0) rfl rfl (as := [aI (xs (i + 1))]) (rest := []) (inr_13 (List.mem_of_getElem? (i := 6) rfl)) (inr_1 (List.mem_of_getElem? (i := 2) rfl)) (inr_13 (List.mem_of_getElem? (i := 3) rfl)) (inr_13 (List.mem_of_getElem? (i := 4) rfl)) (inr_13 (List.mem_of_getElem? (i := 5) rfl)) hdl_X7_gap ⟨Nat.le_of_ble_eq_true rfl, Nat.le_of_ble_eq_true rfl⟩ ⟨Nat.le_of_ble_eq_true rfl, Nat.le_of_ble_eq_true rfl⟩ hl.1 (Nat.le_of_ble_eq_true rfl) rfl dL_law_329 h (fun r0 σ1 H locs hq w => ?_)
  obtain ⟨y0, rfl, h⟩ := hq
  refine W.eq (g2 := F0 m 332 ls [.int y0]) rfl ?_
  refine lv_aload_n hx hb dL_law_332 rfl (lv_at hl 1 rfl) ?_
  refine lv_aload_n hx hb dL_law_333 rfl (lv_at hl 3 rfl) ?_
  refine lv_iload_n hx hb dL_law_334 rfl (lv_at hl 0 rfl) ?_
  refine lv_iconst (v := 1) hx hb dL_law_335 (by decide) ?_
  refine lv_iadd hx hb dL_law_336 ?_
  refine lv_topi (fun z2 ez2 => ?_)
  obtain rfl : z2 = nI (i + 1) := ez2.trans (nI_add i 1)
  refine va_sld (A := fun q => s.heap.size ≤ q) (H0 := s.heap) hx hb hX hbl (Nat.not_le.mpr hbl) w.2.2.2.1 (by unfold vp_in; exact nI_in (c := i + 1) (N := L) (by omega) (by omega)) dL_law_337 ?_
  rw [nI_clamp (show i + 1 < 2 ^ 31 by omega)]
  refine lc_call hx hb hml hown hts w (k := 132) rfl rfl (as := [aI (xs (i + 1))]) (rest := [.int y0]) (inr_13 (List.mem_of_getElem? (i := 10) rfl)) (inr_1 (List.mem_of_getElem? (i := 5) rfl)) (inr_13 (List.mem_of_getElem? (i := 7) rfl)) (inr_13 (List.mem_of_getElem? (i := 8) rfl)) (inr_13 (List.mem_of_getElem? (i := 9) rfl)) hdl_X8_gap ⟨Nat.le_of_ble_eq_true rfl, Nat.le_of_ble_eq_true rfl⟩ ⟨Nat.le_of_ble_eq_true rfl, Nat.le_of_ble_eq_true rfl⟩ hl.1 (Nat.le_of_ble_eq_true rfl) rfl dL_law_338 h (fun r1 σ2 H locs hq w => ?_)
  obtain ⟨y1, rfl, h⟩ := hq
  refine W.eq (g2 := F0 m 341 ls [.int y1, .int y0]) rfl ?_
  exact lv_icmp_eq (tgt := 905) hx hb dL_law_341 (by decide) (fun _ => kk _ _ _ _ h.2 w hl) (fun q => absurd h.1 q)
theorem hdl_X7_meet : yX7_meet.cls ≠ "java/lang/invoke/MethodHandle" ∧ yX7_meet.cls ≠ "java/lang/invoke/VarHandle" ∧ (parseMethodDescriptor yX7_meet.desc).map (fun d => d.parameters.length) = some 3 := ⟨by decide, by decide, by decide +kernel⟩
theorem hdl_X8_meet : yX8_meet.cls ≠ "java/lang/invoke/MethodHandle" ∧ yX8_meet.cls ≠ "java/lang/invoke/VarHandle" ∧ (parseMethodDescriptor yX8_meet.desc).map (fun d => d.parameters.length) = some 3 := ⟨by decide, by decide, by decide +kernel⟩
set_option maxHeartbeats 4000000 in
set_option maxRecDepth 100000 in
theorem lk_6 {p : Program} {l : Launch} {e : Env} {s : State} {m : MethodId} {args : Array Value} {below : List Frame} {meth : Method} {c : Code} {Z : State → Prop} {D : va_G} {cy : Nat → ClassId} {ad : Nat → Nat} {b L i : Nat} {xs : Nat → Int32} (X : lk_X p s m args c b L xs) (hi : i + 6 ≤ L) (kk : lk_K p l e s m args below meth c Z D cy ad i 905 b) : lk_K p l e s m args below meth c Z D cy ad i 346 b := by
  intro σ H locs ls hR w hl
  obtain ⟨hx, hb, hml, hown, hts, hX, hbl, hL⟩ := id X
  refine lv_aload_n hx hb dL_law_346 rfl (lv_at hl 2 rfl) ?_
  refine lv_aload_n hx hb dL_law_347 rfl (lv_at hl 3 rfl) ?_
  refine lv_iload_n hx hb dL_law_348 rfl (lv_at hl 0 rfl) ?_
  refine lv_iconst (v := 1) hx hb dL_law_349 (by decide) ?_
  refine lv_iadd hx hb dL_law_350 ?_
  refine lv_topi (fun z1 ez1 => ?_)
  obtain rfl : z1 = nI (i + 1) := ez1.trans (nI_add i 1)
  refine va_sld (A := fun q => s.heap.size ≤ q) (H0 := s.heap) hx hb hX hbl (Nat.not_le.mpr hbl) w.2.2.2.1 (by unfold vp_in; exact nI_in (c := i + 1) (N := L) (by omega) (by omega)) dL_law_351 ?_
  rw [nI_clamp (show i + 1 < 2 ^ 31 by omega)]
  refine lv_aload_n hx hb dL_law_352 rfl (lv_at hl 3 rfl) ?_
  refine lv_iload_n hx hb dL_law_353 rfl (lv_at hl 0 rfl) ?_
  refine lv_iconst (v := 2) hx hb dL_law_354 (by decide) ?_
  refine lv_iadd hx hb dL_law_355 ?_
  refine lv_topi (fun z2 ez2 => ?_)
  obtain rfl : z2 = nI (i + 2) := ez2.trans (nI_add i 2)
  refine va_sld (A := fun q => s.heap.size ≤ q) (H0 := s.heap) hx hb hX hbl (Nat.not_le.mpr hbl) w.2.2.2.1 (by unfold vp_in; exact nI_in (c := i + 2) (N := L) (by omega) (by omega)) dL_law_356 ?_
  rw [nI_clamp (show i + 2 < 2 ^ 31 by omega)]
  refine lv_aload_n hx hb dL_law_357 rfl (lv_at hl 3 rfl) ?_
  refine lv_iload_n hx hb dL_law_358 rfl (lv_at hl 0 rfl) ?_
  refine lv_iconst (v := 3) hx hb dL_law_359 (by decide) ?_
  refine lv_iadd hx hb dL_law_360 ?_
  refine lv_topi (fun z3 ez3 => ?_)
  obtain rfl : z3 = nI (i + 3) := ez3.trans (nI_add i 3)
  refine va_sld (A := fun q => s.heap.size ≤ q) (H0 := s.heap) hx hb hX hbl (Nat.not_le.mpr hbl) w.2.2.2.1 (by unfold vp_in; exact nI_in (c := i + 3) (N := L) (by omega) (by omega)) dL_law_361 ?_
  rw [nI_clamp (show i + 3 < 2 ^ 31 by omega)]
  refine lv_if_eq (tgt := 369) hx hb dL_law_362 (by decide) (fun c3 => ?_) (fun c3 => ?_)
  · refine lv_iconst (v := 0) hx hb dL_law_369 (by decide) ?_
    have h := step_meet 100 (xs (i + 1)) (xs (i + 2)) (false) σ hR
    refine lc_call hx hb hml hown hts w (k := 0) rfl rfl (as := [aI (xs (i + 1)), aI (xs (i + 2)), aI (0)]) (rest := []) (inr_13 (List.mem_of_getElem? (i := 14) rfl)) (inr_1 (List.mem_of_getElem? (i := 2) rfl)) (inr_13 (List.mem_of_getElem? (i := 11) rfl)) (inr_13 (List.mem_of_getElem? (i := 12) rfl)) (inr_13 (List.mem_of_getElem? (i := 13) rfl)) hdl_X7_meet ⟨Nat.le_of_ble_eq_true rfl, Nat.le_of_ble_eq_true rfl⟩ ⟨Nat.le_of_ble_eq_true rfl, Nat.le_of_ble_eq_true rfl⟩ hl.1 (Nat.le_of_ble_eq_true rfl) rfl dL_law_370 h (fun r0 σ1 H locs hq w => ?_)
    obtain ⟨y0, rfl, h⟩ := hq
    refine W.eq (g2 := F0 m 373 ls [.int y0]) rfl ?_
    refine lv_aload_n hx hb dL_law_373 rfl (lv_at hl 1 rfl) ?_
    refine lv_aload_n hx hb dL_law_374 rfl (lv_at hl 3 rfl) ?_
    refine lv_iload_n hx hb dL_law_375 rfl (lv_at hl 0 rfl) ?_
    refine lv_iconst (v := 1) hx hb dL_law_376 (by decide) ?_
    refine lv_iadd hx hb dL_law_377 ?_
    refine lv_topi (fun z4 ez4 => ?_)
    obtain rfl : z4 = nI (i + 1) := ez4.trans (nI_add i 1)
    refine va_sld (A := fun q => s.heap.size ≤ q) (H0 := s.heap) hx hb hX hbl (Nat.not_le.mpr hbl) w.2.2.2.1 (by unfold vp_in; exact nI_in (c := i + 1) (N := L) (by omega) (by omega)) dL_law_378 ?_
    rw [nI_clamp (show i + 1 < 2 ^ 31 by omega)]
    refine lv_aload_n hx hb dL_law_379 rfl (lv_at hl 3 rfl) ?_
    refine lv_iload_n hx hb dL_law_380 rfl (lv_at hl 0 rfl) ?_
    refine lv_iconst (v := 2) hx hb dL_law_381 (by decide) ?_
    refine lv_iadd hx hb dL_law_382 ?_
    refine lv_topi (fun z5 ez5 => ?_)
    obtain rfl : z5 = nI (i + 2) := ez5.trans (nI_add i 2)
    refine va_sld (A := fun q => s.heap.size ≤ q) (H0 := s.heap) hx hb hX hbl (Nat.not_le.mpr hbl) w.2.2.2.1 (by unfold vp_in; exact nI_in (c := i + 2) (N := L) (by omega) (by omega)) dL_law_383 ?_
    rw [nI_clamp (show i + 2 < 2 ^ 31 by omega)]
    refine lv_aload_n hx hb dL_law_384 rfl (lv_at hl 3 rfl) ?_
    refine lv_iload_n hx hb dL_law_385 rfl (lv_at hl 0 rfl) ?_
    refine lv_iconst (v := 3) hx hb dL_law_386 (by decide) ?_
    refine lv_iadd hx hb dL_law_387 ?_
    refine lv_topi (fun z6 ez6 => ?_)
    obtain rfl : z6 = nI (i + 3) := ez6.trans (nI_add i 3)
    refine va_sld (A := fun q => s.heap.size ≤ q) (H0 := s.heap) hx hb hX hbl (Nat.not_le.mpr hbl) w.2.2.2.1 (by unfold vp_in; exact nI_in (c := i + 3) (N := L) (by omega) (by omega)) dL_law_388 ?_
    rw [nI_clamp (show i + 3 < 2 ^ 31 by omega)]
    refine lv_if_eq (tgt := 396) hx hb dL_law_389 (by decide) (fun _ => ?_) (fun q => absurd c3 q)
    refine lv_iconst (v := 0) hx hb dL_law_396 (by decide) ?_
    refine lc_call hx hb hml hown hts w (k := 132) rfl rfl (as := [aI (xs (i + 1)), aI (xs (i + 2)), aI (0)]) (rest := [.int y0]) (inr_13 (List.mem_of_getElem? (i := 22) rfl)) (inr_1 (List.mem_of_getElem? (i := 5) rfl)) (inr_13 (List.mem_of_getElem? (i := 19) rfl)) (inr_13 (List.mem_of_getElem? (i := 20) rfl)) (inr_13 (List.mem_of_getElem? (i := 21) rfl)) hdl_X8_meet ⟨Nat.le_of_ble_eq_true rfl, Nat.le_of_ble_eq_true rfl⟩ ⟨Nat.le_of_ble_eq_true rfl, Nat.le_of_ble_eq_true rfl⟩ hl.1 (Nat.le_of_ble_eq_true rfl) rfl dL_law_397 h (fun r1 σ2 H locs hq w => ?_)
    obtain ⟨y1, rfl, h⟩ := hq
    refine W.eq (g2 := F0 m 400 ls [.int y1, .int y0]) rfl ?_
    exact lv_icmp_eq (tgt := 905) hx hb dL_law_400 (by decide) (fun _ => kk _ _ _ _ h.2 w hl) (fun q => absurd h.1 q)
  · refine lv_iconst (v := 1) hx hb dL_law_365 (by decide) ?_
    refine lv_goto (tgt := 370) hx hb dL_law_366 (by decide) ?_
    have h := step_meet 100 (xs (i + 1)) (xs (i + 2)) (true) σ hR
    refine lc_call hx hb hml hown hts w (k := 0) rfl rfl (as := [aI (xs (i + 1)), aI (xs (i + 2)), aI (1)]) (rest := []) (inr_13 (List.mem_of_getElem? (i := 14) rfl)) (inr_1 (List.mem_of_getElem? (i := 2) rfl)) (inr_13 (List.mem_of_getElem? (i := 11) rfl)) (inr_13 (List.mem_of_getElem? (i := 12) rfl)) (inr_13 (List.mem_of_getElem? (i := 13) rfl)) hdl_X7_meet ⟨Nat.le_of_ble_eq_true rfl, Nat.le_of_ble_eq_true rfl⟩ ⟨Nat.le_of_ble_eq_true rfl, Nat.le_of_ble_eq_true rfl⟩ hl.1 (Nat.le_of_ble_eq_true rfl) rfl dL_law_370 h (fun r0 σ1 H locs hq w => ?_)
    obtain ⟨y0, rfl, h⟩ := hq
    refine W.eq (g2 := F0 m 373 ls [.int y0]) rfl ?_
    refine lv_aload_n hx hb dL_law_373 rfl (lv_at hl 1 rfl) ?_
    refine lv_aload_n hx hb dL_law_374 rfl (lv_at hl 3 rfl) ?_
    refine lv_iload_n hx hb dL_law_375 rfl (lv_at hl 0 rfl) ?_
    refine lv_iconst (v := 1) hx hb dL_law_376 (by decide) ?_
    refine lv_iadd hx hb dL_law_377 ?_
    refine lv_topi (fun z7 ez7 => ?_)
    obtain rfl : z7 = nI (i + 1) := ez7.trans (nI_add i 1)
    refine va_sld (A := fun q => s.heap.size ≤ q) (H0 := s.heap) hx hb hX hbl (Nat.not_le.mpr hbl) w.2.2.2.1 (by unfold vp_in; exact nI_in (c := i + 1) (N := L) (by omega) (by omega)) dL_law_378 ?_
    rw [nI_clamp (show i + 1 < 2 ^ 31 by omega)]
    refine lv_aload_n hx hb dL_law_379 rfl (lv_at hl 3 rfl) ?_
    refine lv_iload_n hx hb dL_law_380 rfl (lv_at hl 0 rfl) ?_
    refine lv_iconst (v := 2) hx hb dL_law_381 (by decide) ?_
    refine lv_iadd hx hb dL_law_382 ?_
    refine lv_topi (fun z8 ez8 => ?_)
    obtain rfl : z8 = nI (i + 2) := ez8.trans (nI_add i 2)
    refine va_sld (A := fun q => s.heap.size ≤ q) (H0 := s.heap) hx hb hX hbl (Nat.not_le.mpr hbl) w.2.2.2.1 (by unfold vp_in; exact nI_in (c := i + 2) (N := L) (by omega) (by omega)) dL_law_383 ?_
    rw [nI_clamp (show i + 2 < 2 ^ 31 by omega)]
    refine lv_aload_n hx hb dL_law_384 rfl (lv_at hl 3 rfl) ?_
    refine lv_iload_n hx hb dL_law_385 rfl (lv_at hl 0 rfl) ?_
    refine lv_iconst (v := 3) hx hb dL_law_386 (by decide) ?_
    refine lv_iadd hx hb dL_law_387 ?_
    refine lv_topi (fun z9 ez9 => ?_)
    obtain rfl : z9 = nI (i + 3) := ez9.trans (nI_add i 3)
    refine va_sld (A := fun q => s.heap.size ≤ q) (H0 := s.heap) hx hb hX hbl (Nat.not_le.mpr hbl) w.2.2.2.1 (by unfold vp_in; exact nI_in (c := i + 3) (N := L) (by omega) (by omega)) dL_law_388 ?_
    rw [nI_clamp (show i + 3 < 2 ^ 31 by omega)]
    refine lv_if_eq (tgt := 396) hx hb dL_law_389 (by decide) (fun q => absurd q c3) (fun _ => ?_)
    refine lv_iconst (v := 1) hx hb dL_law_392 (by decide) ?_
    refine lv_goto (tgt := 397) hx hb dL_law_393 (by decide) ?_
    refine lc_call hx hb hml hown hts w (k := 132) rfl rfl (as := [aI (xs (i + 1)), aI (xs (i + 2)), aI (1)]) (rest := [.int y0]) (inr_13 (List.mem_of_getElem? (i := 22) rfl)) (inr_1 (List.mem_of_getElem? (i := 5) rfl)) (inr_13 (List.mem_of_getElem? (i := 19) rfl)) (inr_13 (List.mem_of_getElem? (i := 20) rfl)) (inr_13 (List.mem_of_getElem? (i := 21) rfl)) hdl_X8_meet ⟨Nat.le_of_ble_eq_true rfl, Nat.le_of_ble_eq_true rfl⟩ ⟨Nat.le_of_ble_eq_true rfl, Nat.le_of_ble_eq_true rfl⟩ hl.1 (Nat.le_of_ble_eq_true rfl) rfl dL_law_397 h (fun r1 σ2 H locs hq w => ?_)
    obtain ⟨y1, rfl, h⟩ := hq
    refine W.eq (g2 := F0 m 400 ls [.int y1, .int y0]) rfl ?_
    exact lv_icmp_eq (tgt := 905) hx hb dL_law_400 (by decide) (fun _ => kk _ _ _ _ h.2 w hl) (fun q => absurd h.1 q)
theorem hdl_X7_apart : yX7_apart.cls ≠ "java/lang/invoke/MethodHandle" ∧ yX7_apart.cls ≠ "java/lang/invoke/VarHandle" ∧ (parseMethodDescriptor yX7_apart.desc).map (fun d => d.parameters.length) = some 3 := ⟨by decide, by decide, by decide +kernel⟩
theorem hdl_X8_apart : yX8_apart.cls ≠ "java/lang/invoke/MethodHandle" ∧ yX8_apart.cls ≠ "java/lang/invoke/VarHandle" ∧ (parseMethodDescriptor yX8_apart.desc).map (fun d => d.parameters.length) = some 3 := ⟨by decide, by decide, by decide +kernel⟩
set_option maxHeartbeats 4000000 in
set_option maxRecDepth 100000 in
theorem lk_7 {p : Program} {l : Launch} {e : Env} {s : State} {m : MethodId} {args : Array Value} {below : List Frame} {meth : Method} {c : Code} {Z : State → Prop} {D : va_G} {cy : Nat → ClassId} {ad : Nat → Nat} {b L i : Nat} {xs : Nat → Int32} (X : lk_X p s m args c b L xs) (hi : i + 6 ≤ L) (kk : lk_K p l e s m args below meth c Z D cy ad i 905 b) : lk_K p l e s m args below meth c Z D cy ad i 405 b := by
  intro σ H locs ls hR w hl
  obtain ⟨hx, hb, hml, hown, hts, hX, hbl, hL⟩ := id X
  refine lv_aload_n hx hb dL_law_405 rfl (lv_at hl 2 rfl) ?_
  refine lv_aload_n hx hb dL_law_406 rfl (lv_at hl 3 rfl) ?_
  refine lv_iload_n hx hb dL_law_407 rfl (lv_at hl 0 rfl) ?_
  refine lv_iconst (v := 1) hx hb dL_law_408 (by decide) ?_
  refine lv_iadd hx hb dL_law_409 ?_
  refine lv_topi (fun z1 ez1 => ?_)
  obtain rfl : z1 = nI (i + 1) := ez1.trans (nI_add i 1)
  refine va_sld (A := fun q => s.heap.size ≤ q) (H0 := s.heap) hx hb hX hbl (Nat.not_le.mpr hbl) w.2.2.2.1 (by unfold vp_in; exact nI_in (c := i + 1) (N := L) (by omega) (by omega)) dL_law_410 ?_
  rw [nI_clamp (show i + 1 < 2 ^ 31 by omega)]
  refine lv_aload_n hx hb dL_law_411 rfl (lv_at hl 3 rfl) ?_
  refine lv_iload_n hx hb dL_law_412 rfl (lv_at hl 0 rfl) ?_
  refine lv_iconst (v := 2) hx hb dL_law_413 (by decide) ?_
  refine lv_iadd hx hb dL_law_414 ?_
  refine lv_topi (fun z2 ez2 => ?_)
  obtain rfl : z2 = nI (i + 2) := ez2.trans (nI_add i 2)
  refine va_sld (A := fun q => s.heap.size ≤ q) (H0 := s.heap) hx hb hX hbl (Nat.not_le.mpr hbl) w.2.2.2.1 (by unfold vp_in; exact nI_in (c := i + 2) (N := L) (by omega) (by omega)) dL_law_415 ?_
  rw [nI_clamp (show i + 2 < 2 ^ 31 by omega)]
  refine lv_aload_n hx hb dL_law_416 rfl (lv_at hl 3 rfl) ?_
  refine lv_iload_n hx hb dL_law_417 rfl (lv_at hl 0 rfl) ?_
  refine lv_iconst (v := 3) hx hb dL_law_418 (by decide) ?_
  refine lv_iadd hx hb dL_law_419 ?_
  refine lv_topi (fun z3 ez3 => ?_)
  obtain rfl : z3 = nI (i + 3) := ez3.trans (nI_add i 3)
  refine va_sld (A := fun q => s.heap.size ≤ q) (H0 := s.heap) hx hb hX hbl (Nat.not_le.mpr hbl) w.2.2.2.1 (by unfold vp_in; exact nI_in (c := i + 3) (N := L) (by omega) (by omega)) dL_law_420 ?_
  rw [nI_clamp (show i + 3 < 2 ^ 31 by omega)]
  refine lv_if_eq (tgt := 428) hx hb dL_law_421 (by decide) (fun c3 => ?_) (fun c3 => ?_)
  · refine lv_iconst (v := 0) hx hb dL_law_428 (by decide) ?_
    have h := step_apart 100 (xs (i + 1)) (xs (i + 2)) (false) σ hR
    refine lc_call hx hb hml hown hts w (k := 0) rfl rfl (as := [aI (xs (i + 1)), aI (xs (i + 2)), aI (0)]) (rest := []) (inr_14 (List.mem_of_getElem? (i := 6) rfl)) (inr_1 (List.mem_of_getElem? (i := 2) rfl)) (inr_14 (List.mem_of_getElem? (i := 3) rfl)) (inr_14 (List.mem_of_getElem? (i := 4) rfl)) (inr_14 (List.mem_of_getElem? (i := 5) rfl)) hdl_X7_apart ⟨Nat.le_of_ble_eq_true rfl, Nat.le_of_ble_eq_true rfl⟩ ⟨Nat.le_of_ble_eq_true rfl, Nat.le_of_ble_eq_true rfl⟩ hl.1 (Nat.le_of_ble_eq_true rfl) rfl dL_law_429 h (fun r0 σ1 H locs hq w => ?_)
    obtain ⟨y0, rfl, h⟩ := hq
    refine W.eq (g2 := F0 m 432 ls [.int y0]) rfl ?_
    refine lv_aload_n hx hb dL_law_432 rfl (lv_at hl 1 rfl) ?_
    refine lv_aload_n hx hb dL_law_433 rfl (lv_at hl 3 rfl) ?_
    refine lv_iload_n hx hb dL_law_434 rfl (lv_at hl 0 rfl) ?_
    refine lv_iconst (v := 1) hx hb dL_law_435 (by decide) ?_
    refine lv_iadd hx hb dL_law_436 ?_
    refine lv_topi (fun z4 ez4 => ?_)
    obtain rfl : z4 = nI (i + 1) := ez4.trans (nI_add i 1)
    refine va_sld (A := fun q => s.heap.size ≤ q) (H0 := s.heap) hx hb hX hbl (Nat.not_le.mpr hbl) w.2.2.2.1 (by unfold vp_in; exact nI_in (c := i + 1) (N := L) (by omega) (by omega)) dL_law_437 ?_
    rw [nI_clamp (show i + 1 < 2 ^ 31 by omega)]
    refine lv_aload_n hx hb dL_law_438 rfl (lv_at hl 3 rfl) ?_
    refine lv_iload_n hx hb dL_law_439 rfl (lv_at hl 0 rfl) ?_
    refine lv_iconst (v := 2) hx hb dL_law_440 (by decide) ?_
    refine lv_iadd hx hb dL_law_441 ?_
    refine lv_topi (fun z5 ez5 => ?_)
    obtain rfl : z5 = nI (i + 2) := ez5.trans (nI_add i 2)
    refine va_sld (A := fun q => s.heap.size ≤ q) (H0 := s.heap) hx hb hX hbl (Nat.not_le.mpr hbl) w.2.2.2.1 (by unfold vp_in; exact nI_in (c := i + 2) (N := L) (by omega) (by omega)) dL_law_442 ?_
    rw [nI_clamp (show i + 2 < 2 ^ 31 by omega)]
    refine lv_aload_n hx hb dL_law_443 rfl (lv_at hl 3 rfl) ?_
    refine lv_iload_n hx hb dL_law_444 rfl (lv_at hl 0 rfl) ?_
    refine lv_iconst (v := 3) hx hb dL_law_445 (by decide) ?_
    refine lv_iadd hx hb dL_law_446 ?_
    refine lv_topi (fun z6 ez6 => ?_)
    obtain rfl : z6 = nI (i + 3) := ez6.trans (nI_add i 3)
    refine va_sld (A := fun q => s.heap.size ≤ q) (H0 := s.heap) hx hb hX hbl (Nat.not_le.mpr hbl) w.2.2.2.1 (by unfold vp_in; exact nI_in (c := i + 3) (N := L) (by omega) (by omega)) dL_law_447 ?_
    rw [nI_clamp (show i + 3 < 2 ^ 31 by omega)]
    refine lv_if_eq (tgt := 455) hx hb dL_law_448 (by decide) (fun _ => ?_) (fun q => absurd c3 q)
    refine lv_iconst (v := 0) hx hb dL_law_455 (by decide) ?_
    refine lc_call hx hb hml hown hts w (k := 132) rfl rfl (as := [aI (xs (i + 1)), aI (xs (i + 2)), aI (0)]) (rest := [.int y0]) (inr_14 (List.mem_of_getElem? (i := 14) rfl)) (inr_1 (List.mem_of_getElem? (i := 5) rfl)) (inr_14 (List.mem_of_getElem? (i := 11) rfl)) (inr_14 (List.mem_of_getElem? (i := 12) rfl)) (inr_14 (List.mem_of_getElem? (i := 13) rfl)) hdl_X8_apart ⟨Nat.le_of_ble_eq_true rfl, Nat.le_of_ble_eq_true rfl⟩ ⟨Nat.le_of_ble_eq_true rfl, Nat.le_of_ble_eq_true rfl⟩ hl.1 (Nat.le_of_ble_eq_true rfl) rfl dL_law_456 h (fun r1 σ2 H locs hq w => ?_)
    obtain ⟨y1, rfl, h⟩ := hq
    refine W.eq (g2 := F0 m 459 ls [.int y1, .int y0]) rfl ?_
    exact lv_icmp_eq (tgt := 905) hx hb dL_law_459 (by decide) (fun _ => kk _ _ _ _ h.2 w hl) (fun q => absurd h.1 q)
  · refine lv_iconst (v := 1) hx hb dL_law_424 (by decide) ?_
    refine lv_goto (tgt := 429) hx hb dL_law_425 (by decide) ?_
    have h := step_apart 100 (xs (i + 1)) (xs (i + 2)) (true) σ hR
    refine lc_call hx hb hml hown hts w (k := 0) rfl rfl (as := [aI (xs (i + 1)), aI (xs (i + 2)), aI (1)]) (rest := []) (inr_14 (List.mem_of_getElem? (i := 6) rfl)) (inr_1 (List.mem_of_getElem? (i := 2) rfl)) (inr_14 (List.mem_of_getElem? (i := 3) rfl)) (inr_14 (List.mem_of_getElem? (i := 4) rfl)) (inr_14 (List.mem_of_getElem? (i := 5) rfl)) hdl_X7_apart ⟨Nat.le_of_ble_eq_true rfl, Nat.le_of_ble_eq_true rfl⟩ ⟨Nat.le_of_ble_eq_true rfl, Nat.le_of_ble_eq_true rfl⟩ hl.1 (Nat.le_of_ble_eq_true rfl) rfl dL_law_429 h (fun r0 σ1 H locs hq w => ?_)
    obtain ⟨y0, rfl, h⟩ := hq
    refine W.eq (g2 := F0 m 432 ls [.int y0]) rfl ?_
    refine lv_aload_n hx hb dL_law_432 rfl (lv_at hl 1 rfl) ?_
    refine lv_aload_n hx hb dL_law_433 rfl (lv_at hl 3 rfl) ?_
    refine lv_iload_n hx hb dL_law_434 rfl (lv_at hl 0 rfl) ?_
    refine lv_iconst (v := 1) hx hb dL_law_435 (by decide) ?_
    refine lv_iadd hx hb dL_law_436 ?_
    refine lv_topi (fun z7 ez7 => ?_)
    obtain rfl : z7 = nI (i + 1) := ez7.trans (nI_add i 1)
    refine va_sld (A := fun q => s.heap.size ≤ q) (H0 := s.heap) hx hb hX hbl (Nat.not_le.mpr hbl) w.2.2.2.1 (by unfold vp_in; exact nI_in (c := i + 1) (N := L) (by omega) (by omega)) dL_law_437 ?_
    rw [nI_clamp (show i + 1 < 2 ^ 31 by omega)]
    refine lv_aload_n hx hb dL_law_438 rfl (lv_at hl 3 rfl) ?_
    refine lv_iload_n hx hb dL_law_439 rfl (lv_at hl 0 rfl) ?_
    refine lv_iconst (v := 2) hx hb dL_law_440 (by decide) ?_
    refine lv_iadd hx hb dL_law_441 ?_
    refine lv_topi (fun z8 ez8 => ?_)
    obtain rfl : z8 = nI (i + 2) := ez8.trans (nI_add i 2)
    refine va_sld (A := fun q => s.heap.size ≤ q) (H0 := s.heap) hx hb hX hbl (Nat.not_le.mpr hbl) w.2.2.2.1 (by unfold vp_in; exact nI_in (c := i + 2) (N := L) (by omega) (by omega)) dL_law_442 ?_
    rw [nI_clamp (show i + 2 < 2 ^ 31 by omega)]
    refine lv_aload_n hx hb dL_law_443 rfl (lv_at hl 3 rfl) ?_
    refine lv_iload_n hx hb dL_law_444 rfl (lv_at hl 0 rfl) ?_
    refine lv_iconst (v := 3) hx hb dL_law_445 (by decide) ?_
    refine lv_iadd hx hb dL_law_446 ?_
    refine lv_topi (fun z9 ez9 => ?_)
    obtain rfl : z9 = nI (i + 3) := ez9.trans (nI_add i 3)
    refine va_sld (A := fun q => s.heap.size ≤ q) (H0 := s.heap) hx hb hX hbl (Nat.not_le.mpr hbl) w.2.2.2.1 (by unfold vp_in; exact nI_in (c := i + 3) (N := L) (by omega) (by omega)) dL_law_447 ?_
    rw [nI_clamp (show i + 3 < 2 ^ 31 by omega)]
    refine lv_if_eq (tgt := 455) hx hb dL_law_448 (by decide) (fun q => absurd q c3) (fun _ => ?_)
    refine lv_iconst (v := 1) hx hb dL_law_451 (by decide) ?_
    refine lv_goto (tgt := 456) hx hb dL_law_452 (by decide) ?_
    refine lc_call hx hb hml hown hts w (k := 132) rfl rfl (as := [aI (xs (i + 1)), aI (xs (i + 2)), aI (1)]) (rest := [.int y0]) (inr_14 (List.mem_of_getElem? (i := 14) rfl)) (inr_1 (List.mem_of_getElem? (i := 5) rfl)) (inr_14 (List.mem_of_getElem? (i := 11) rfl)) (inr_14 (List.mem_of_getElem? (i := 12) rfl)) (inr_14 (List.mem_of_getElem? (i := 13) rfl)) hdl_X8_apart ⟨Nat.le_of_ble_eq_true rfl, Nat.le_of_ble_eq_true rfl⟩ ⟨Nat.le_of_ble_eq_true rfl, Nat.le_of_ble_eq_true rfl⟩ hl.1 (Nat.le_of_ble_eq_true rfl) rfl dL_law_456 h (fun r1 σ2 H locs hq w => ?_)
    obtain ⟨y1, rfl, h⟩ := hq
    refine W.eq (g2 := F0 m 459 ls [.int y1, .int y0]) rfl ?_
    exact lv_icmp_eq (tgt := 905) hx hb dL_law_459 (by decide) (fun _ => kk _ _ _ _ h.2 w hl) (fun q => absurd h.1 q)
theorem hdl_X7_price : yX7_price.cls ≠ "java/lang/invoke/MethodHandle" ∧ yX7_price.cls ≠ "java/lang/invoke/VarHandle" ∧ (parseMethodDescriptor yX7_price.desc).map (fun d => d.parameters.length) = some 2 := ⟨by decide, by decide, by decide +kernel⟩
theorem hdl_X8_price : yX8_price.cls ≠ "java/lang/invoke/MethodHandle" ∧ yX8_price.cls ≠ "java/lang/invoke/VarHandle" ∧ (parseMethodDescriptor yX8_price.desc).map (fun d => d.parameters.length) = some 2 := ⟨by decide, by decide, by decide +kernel⟩
set_option maxHeartbeats 4000000 in
set_option maxRecDepth 100000 in
theorem lk_8 {p : Program} {l : Launch} {e : Env} {s : State} {m : MethodId} {args : Array Value} {below : List Frame} {meth : Method} {c : Code} {Z : State → Prop} {D : va_G} {cy : Nat → ClassId} {ad : Nat → Nat} {b L i : Nat} {xs : Nat → Int32} (X : lk_X p s m args c b L xs) (hi : i + 6 ≤ L) (kk : lk_K p l e s m args below meth c Z D cy ad i 905 b) : lk_K p l e s m args below meth c Z D cy ad i 464 b := by
  intro σ H locs ls hR w hl
  obtain ⟨hx, hb, hml, hown, hts, hX, hbl, hL⟩ := id X
  refine lv_aload_n hx hb dL_law_464 rfl (lv_at hl 2 rfl) ?_
  refine lv_aload_n hx hb dL_law_465 rfl (lv_at hl 3 rfl) ?_
  refine lv_iload_n hx hb dL_law_466 rfl (lv_at hl 0 rfl) ?_
  refine lv_iconst (v := 1) hx hb dL_law_467 (by decide) ?_
  refine lv_iadd hx hb dL_law_468 ?_
  refine lv_topi (fun z1 ez1 => ?_)
  obtain rfl : z1 = nI (i + 1) := ez1.trans (nI_add i 1)
  refine va_sld (A := fun q => s.heap.size ≤ q) (H0 := s.heap) hx hb hX hbl (Nat.not_le.mpr hbl) w.2.2.2.1 (by unfold vp_in; exact nI_in (c := i + 1) (N := L) (by omega) (by omega)) dL_law_469 ?_
  rw [nI_clamp (show i + 1 < 2 ^ 31 by omega)]
  refine lv_aload_n hx hb dL_law_470 rfl (lv_at hl 3 rfl) ?_
  refine lv_iload_n hx hb dL_law_471 rfl (lv_at hl 0 rfl) ?_
  refine lv_iconst (v := 2) hx hb dL_law_472 (by decide) ?_
  refine lv_iadd hx hb dL_law_473 ?_
  refine lv_topi (fun z2 ez2 => ?_)
  obtain rfl : z2 = nI (i + 2) := ez2.trans (nI_add i 2)
  refine va_sld (A := fun q => s.heap.size ≤ q) (H0 := s.heap) hx hb hX hbl (Nat.not_le.mpr hbl) w.2.2.2.1 (by unfold vp_in; exact nI_in (c := i + 2) (N := L) (by omega) (by omega)) dL_law_474 ?_
  rw [nI_clamp (show i + 2 < 2 ^ 31 by omega)]
  have h := step_price 100 (xs (i + 1)) (xs (i + 2)) σ hR
  refine lc_call hx hb hml hown hts w (k := 0) rfl rfl (as := [aI (xs (i + 1)), aI (xs (i + 2))]) (rest := []) (inr_14 (List.mem_of_getElem? (i := 21) rfl)) (inr_1 (List.mem_of_getElem? (i := 2) rfl)) (inr_14 (List.mem_of_getElem? (i := 18) rfl)) (inr_14 (List.mem_of_getElem? (i := 19) rfl)) (inr_14 (List.mem_of_getElem? (i := 20) rfl)) hdl_X7_price ⟨Nat.le_of_ble_eq_true rfl, Nat.le_of_ble_eq_true rfl⟩ ⟨Nat.le_of_ble_eq_true rfl, Nat.le_of_ble_eq_true rfl⟩ hl.1 (Nat.le_of_ble_eq_true rfl) rfl dL_law_475 h (fun r0 σ1 H locs hq w => ?_)
  obtain ⟨y0, rfl, h⟩ := hq
  refine W.eq (g2 := F0 m 478 ls [.int y0]) rfl ?_
  refine lv_aload_n hx hb dL_law_478 rfl (lv_at hl 1 rfl) ?_
  refine lv_aload_n hx hb dL_law_479 rfl (lv_at hl 3 rfl) ?_
  refine lv_iload_n hx hb dL_law_480 rfl (lv_at hl 0 rfl) ?_
  refine lv_iconst (v := 1) hx hb dL_law_481 (by decide) ?_
  refine lv_iadd hx hb dL_law_482 ?_
  refine lv_topi (fun z3 ez3 => ?_)
  obtain rfl : z3 = nI (i + 1) := ez3.trans (nI_add i 1)
  refine va_sld (A := fun q => s.heap.size ≤ q) (H0 := s.heap) hx hb hX hbl (Nat.not_le.mpr hbl) w.2.2.2.1 (by unfold vp_in; exact nI_in (c := i + 1) (N := L) (by omega) (by omega)) dL_law_483 ?_
  rw [nI_clamp (show i + 1 < 2 ^ 31 by omega)]
  refine lv_aload_n hx hb dL_law_484 rfl (lv_at hl 3 rfl) ?_
  refine lv_iload_n hx hb dL_law_485 rfl (lv_at hl 0 rfl) ?_
  refine lv_iconst (v := 2) hx hb dL_law_486 (by decide) ?_
  refine lv_iadd hx hb dL_law_487 ?_
  refine lv_topi (fun z4 ez4 => ?_)
  obtain rfl : z4 = nI (i + 2) := ez4.trans (nI_add i 2)
  refine va_sld (A := fun q => s.heap.size ≤ q) (H0 := s.heap) hx hb hX hbl (Nat.not_le.mpr hbl) w.2.2.2.1 (by unfold vp_in; exact nI_in (c := i + 2) (N := L) (by omega) (by omega)) dL_law_488 ?_
  rw [nI_clamp (show i + 2 < 2 ^ 31 by omega)]
  refine lc_call hx hb hml hown hts w (k := 132) rfl rfl (as := [aI (xs (i + 1)), aI (xs (i + 2))]) (rest := [.int y0]) (inr_15 (List.mem_of_getElem? (i := 2) rfl)) (inr_1 (List.mem_of_getElem? (i := 5) rfl)) (inr_14 (List.mem_of_getElem? (i := 23) rfl)) (inr_15 (List.mem_of_getElem? (i := 0) rfl)) (inr_15 (List.mem_of_getElem? (i := 1) rfl)) hdl_X8_price ⟨Nat.le_of_ble_eq_true rfl, Nat.le_of_ble_eq_true rfl⟩ ⟨Nat.le_of_ble_eq_true rfl, Nat.le_of_ble_eq_true rfl⟩ hl.1 (Nat.le_of_ble_eq_true rfl) rfl dL_law_489 h (fun r1 σ2 H locs hq w => ?_)
  obtain ⟨y1, rfl, h⟩ := hq
  refine W.eq (g2 := F0 m 492 ls [.int y1, .int y0]) rfl ?_
  exact lv_icmp_eq (tgt := 905) hx hb dL_law_492 (by decide) (fun _ => kk _ _ _ _ h.2 w hl) (fun q => absurd h.1 q)
theorem hdl_X7_look : yX7_look.cls ≠ "java/lang/invoke/MethodHandle" ∧ yX7_look.cls ≠ "java/lang/invoke/VarHandle" ∧ (parseMethodDescriptor yX7_look.desc).map (fun d => d.parameters.length) = some 1 := ⟨by decide, by decide, by decide +kernel⟩
theorem hdl_X8_look : yX8_look.cls ≠ "java/lang/invoke/MethodHandle" ∧ yX8_look.cls ≠ "java/lang/invoke/VarHandle" ∧ (parseMethodDescriptor yX8_look.desc).map (fun d => d.parameters.length) = some 1 := ⟨by decide, by decide, by decide +kernel⟩
set_option maxHeartbeats 4000000 in
set_option maxRecDepth 100000 in
theorem lk_9 {p : Program} {l : Launch} {e : Env} {s : State} {m : MethodId} {args : Array Value} {below : List Frame} {meth : Method} {c : Code} {Z : State → Prop} {D : va_G} {cy : Nat → ClassId} {ad : Nat → Nat} {b L i : Nat} {xs : Nat → Int32} (X : lk_X p s m args c b L xs) (hi : i + 6 ≤ L) (kk : lk_K p l e s m args below meth c Z D cy ad i 905 b) : lk_K p l e s m args below meth c Z D cy ad i 497 b := by
  intro σ H locs ls hR w hl
  obtain ⟨hx, hb, hml, hown, hts, hX, hbl, hL⟩ := id X
  refine lv_aload_n hx hb dL_law_497 rfl (lv_at hl 2 rfl) ?_
  refine lv_aload_n hx hb dL_law_498 rfl (lv_at hl 3 rfl) ?_
  refine lv_iload_n hx hb dL_law_499 rfl (lv_at hl 0 rfl) ?_
  refine lv_iconst (v := 1) hx hb dL_law_500 (by decide) ?_
  refine lv_iadd hx hb dL_law_501 ?_
  refine lv_topi (fun z1 ez1 => ?_)
  obtain rfl : z1 = nI (i + 1) := ez1.trans (nI_add i 1)
  refine va_sld (A := fun q => s.heap.size ≤ q) (H0 := s.heap) hx hb hX hbl (Nat.not_le.mpr hbl) w.2.2.2.1 (by unfold vp_in; exact nI_in (c := i + 1) (N := L) (by omega) (by omega)) dL_law_502 ?_
  rw [nI_clamp (show i + 1 < 2 ^ 31 by omega)]
  have h := step_look 100 (xs (i + 1)) σ hR
  refine lc_call hx hb hml hown hts w (k := 0) rfl rfl (as := [aI (xs (i + 1))]) (rest := []) (inr_15 (List.mem_of_getElem? (i := 6) rfl)) (inr_1 (List.mem_of_getElem? (i := 2) rfl)) (inr_15 (List.mem_of_getElem? (i := 3) rfl)) (inr_15 (List.mem_of_getElem? (i := 4) rfl)) (inr_15 (List.mem_of_getElem? (i := 5) rfl)) hdl_X7_look ⟨Nat.le_of_ble_eq_true rfl, Nat.le_of_ble_eq_true rfl⟩ ⟨Nat.le_of_ble_eq_true rfl, Nat.le_of_ble_eq_true rfl⟩ hl.1 (Nat.le_of_ble_eq_true rfl) rfl dL_law_503 h (fun r0 σ1 H locs hq w => ?_)
  obtain ⟨y0, rfl, h⟩ := hq
  refine W.eq (g2 := F0 m 506 ls [.int y0]) rfl ?_
  refine lv_aload_n hx hb dL_law_506 rfl (lv_at hl 1 rfl) ?_
  refine lv_aload_n hx hb dL_law_507 rfl (lv_at hl 3 rfl) ?_
  refine lv_iload_n hx hb dL_law_508 rfl (lv_at hl 0 rfl) ?_
  refine lv_iconst (v := 1) hx hb dL_law_509 (by decide) ?_
  refine lv_iadd hx hb dL_law_510 ?_
  refine lv_topi (fun z2 ez2 => ?_)
  obtain rfl : z2 = nI (i + 1) := ez2.trans (nI_add i 1)
  refine va_sld (A := fun q => s.heap.size ≤ q) (H0 := s.heap) hx hb hX hbl (Nat.not_le.mpr hbl) w.2.2.2.1 (by unfold vp_in; exact nI_in (c := i + 1) (N := L) (by omega) (by omega)) dL_law_511 ?_
  rw [nI_clamp (show i + 1 < 2 ^ 31 by omega)]
  refine lc_call hx hb hml hown hts w (k := 132) rfl rfl (as := [aI (xs (i + 1))]) (rest := [.int y0]) (inr_15 (List.mem_of_getElem? (i := 10) rfl)) (inr_1 (List.mem_of_getElem? (i := 5) rfl)) (inr_15 (List.mem_of_getElem? (i := 7) rfl)) (inr_15 (List.mem_of_getElem? (i := 8) rfl)) (inr_15 (List.mem_of_getElem? (i := 9) rfl)) hdl_X8_look ⟨Nat.le_of_ble_eq_true rfl, Nat.le_of_ble_eq_true rfl⟩ ⟨Nat.le_of_ble_eq_true rfl, Nat.le_of_ble_eq_true rfl⟩ hl.1 (Nat.le_of_ble_eq_true rfl) rfl dL_law_512 h (fun r1 σ2 H locs hq w => ?_)
  obtain ⟨y1, rfl, h⟩ := hq
  refine W.eq (g2 := F0 m 515 ls [.int y1, .int y0]) rfl ?_
  exact lv_icmp_eq (tgt := 905) hx hb dL_law_515 (by decide) (fun _ => kk _ _ _ _ h.2 w hl) (fun q => absurd h.1 q)
theorem hdl_X7_of : yX7_of.cls ≠ "java/lang/invoke/MethodHandle" ∧ yX7_of.cls ≠ "java/lang/invoke/VarHandle" ∧ (parseMethodDescriptor yX7_of.desc).map (fun d => d.parameters.length) = some 2 := ⟨by decide, by decide, by decide +kernel⟩
theorem hdl_X8_of : yX8_of.cls ≠ "java/lang/invoke/MethodHandle" ∧ yX8_of.cls ≠ "java/lang/invoke/VarHandle" ∧ (parseMethodDescriptor yX8_of.desc).map (fun d => d.parameters.length) = some 2 := ⟨by decide, by decide, by decide +kernel⟩
set_option maxHeartbeats 4000000 in
set_option maxRecDepth 100000 in
theorem lk_10 {p : Program} {l : Launch} {e : Env} {s : State} {m : MethodId} {args : Array Value} {below : List Frame} {meth : Method} {c : Code} {Z : State → Prop} {D : va_G} {cy : Nat → ClassId} {ad : Nat → Nat} {b L i : Nat} {xs : Nat → Int32} (X : lk_X p s m args c b L xs) (hi : i + 6 ≤ L) (kk : lk_K p l e s m args below meth c Z D cy ad i 905 b) : lk_K p l e s m args below meth c Z D cy ad i 520 b := by
  intro σ H locs ls hR w hl
  obtain ⟨hx, hb, hml, hown, hts, hX, hbl, hL⟩ := id X
  refine lv_aload_n hx hb dL_law_520 rfl (lv_at hl 2 rfl) ?_
  refine lv_aload_n hx hb dL_law_521 rfl (lv_at hl 3 rfl) ?_
  refine lv_iload_n hx hb dL_law_522 rfl (lv_at hl 0 rfl) ?_
  refine lv_iconst (v := 1) hx hb dL_law_523 (by decide) ?_
  refine lv_iadd hx hb dL_law_524 ?_
  refine lv_topi (fun z1 ez1 => ?_)
  obtain rfl : z1 = nI (i + 1) := ez1.trans (nI_add i 1)
  refine va_sld (A := fun q => s.heap.size ≤ q) (H0 := s.heap) hx hb hX hbl (Nat.not_le.mpr hbl) w.2.2.2.1 (by unfold vp_in; exact nI_in (c := i + 1) (N := L) (by omega) (by omega)) dL_law_525 ?_
  rw [nI_clamp (show i + 1 < 2 ^ 31 by omega)]
  refine lv_aload_n hx hb dL_law_526 rfl (lv_at hl 3 rfl) ?_
  refine lv_iload_n hx hb dL_law_527 rfl (lv_at hl 0 rfl) ?_
  refine lv_iconst (v := 2) hx hb dL_law_528 (by decide) ?_
  refine lv_iadd hx hb dL_law_529 ?_
  refine lv_topi (fun z2 ez2 => ?_)
  obtain rfl : z2 = nI (i + 2) := ez2.trans (nI_add i 2)
  refine va_sld (A := fun q => s.heap.size ≤ q) (H0 := s.heap) hx hb hX hbl (Nat.not_le.mpr hbl) w.2.2.2.1 (by unfold vp_in; exact nI_in (c := i + 2) (N := L) (by omega) (by omega)) dL_law_530 ?_
  rw [nI_clamp (show i + 2 < 2 ^ 31 by omega)]
  have h := step_of 100 (xs (i + 1)) (xs (i + 2)) σ hR
  refine lc_call hx hb hml hown hts w (k := 0) rfl rfl (as := [aI (xs (i + 1)), aI (xs (i + 2))]) (rest := []) (inr_15 (List.mem_of_getElem? (i := 14) rfl)) (inr_1 (List.mem_of_getElem? (i := 2) rfl)) (inr_15 (List.mem_of_getElem? (i := 11) rfl)) (inr_15 (List.mem_of_getElem? (i := 12) rfl)) (inr_15 (List.mem_of_getElem? (i := 13) rfl)) hdl_X7_of ⟨Nat.le_of_ble_eq_true rfl, Nat.le_of_ble_eq_true rfl⟩ ⟨Nat.le_of_ble_eq_true rfl, Nat.le_of_ble_eq_true rfl⟩ hl.1 (Nat.le_of_ble_eq_true rfl) rfl dL_law_531 h (fun r0 σ1 H locs hq w => ?_)
  obtain ⟨y0, rfl, h⟩ := hq
  refine W.eq (g2 := F0 m 534 ls [.int y0]) rfl ?_
  refine lv_aload_n hx hb dL_law_534 rfl (lv_at hl 1 rfl) ?_
  refine lv_aload_n hx hb dL_law_535 rfl (lv_at hl 3 rfl) ?_
  refine lv_iload_n hx hb dL_law_536 rfl (lv_at hl 0 rfl) ?_
  refine lv_iconst (v := 1) hx hb dL_law_537 (by decide) ?_
  refine lv_iadd hx hb dL_law_538 ?_
  refine lv_topi (fun z3 ez3 => ?_)
  obtain rfl : z3 = nI (i + 1) := ez3.trans (nI_add i 1)
  refine va_sld (A := fun q => s.heap.size ≤ q) (H0 := s.heap) hx hb hX hbl (Nat.not_le.mpr hbl) w.2.2.2.1 (by unfold vp_in; exact nI_in (c := i + 1) (N := L) (by omega) (by omega)) dL_law_539 ?_
  rw [nI_clamp (show i + 1 < 2 ^ 31 by omega)]
  refine lv_aload_n hx hb dL_law_540 rfl (lv_at hl 3 rfl) ?_
  refine lv_iload_n hx hb dL_law_541 rfl (lv_at hl 0 rfl) ?_
  refine lv_iconst (v := 2) hx hb dL_law_542 (by decide) ?_
  refine lv_iadd hx hb dL_law_543 ?_
  refine lv_topi (fun z4 ez4 => ?_)
  obtain rfl : z4 = nI (i + 2) := ez4.trans (nI_add i 2)
  refine va_sld (A := fun q => s.heap.size ≤ q) (H0 := s.heap) hx hb hX hbl (Nat.not_le.mpr hbl) w.2.2.2.1 (by unfold vp_in; exact nI_in (c := i + 2) (N := L) (by omega) (by omega)) dL_law_544 ?_
  rw [nI_clamp (show i + 2 < 2 ^ 31 by omega)]
  refine lc_call hx hb hml hown hts w (k := 132) rfl rfl (as := [aI (xs (i + 1)), aI (xs (i + 2))]) (rest := [.int y0]) (inr_16 (List.mem_of_getElem? (i := 12) rfl)) (inr_1 (List.mem_of_getElem? (i := 5) rfl)) (inr_16 (List.mem_of_getElem? (i := 9) rfl)) (inr_16 (List.mem_of_getElem? (i := 10) rfl)) (inr_16 (List.mem_of_getElem? (i := 11) rfl)) hdl_X8_of ⟨Nat.le_of_ble_eq_true rfl, Nat.le_of_ble_eq_true rfl⟩ ⟨Nat.le_of_ble_eq_true rfl, Nat.le_of_ble_eq_true rfl⟩ hl.1 (Nat.le_of_ble_eq_true rfl) rfl dL_law_545 h (fun r1 σ2 H locs hq w => ?_)
  obtain ⟨y1, rfl, h⟩ := hq
  refine W.eq (g2 := F0 m 548 ls [.int y1, .int y0]) rfl ?_
  exact lv_icmp_eq (tgt := 905) hx hb dL_law_548 (by decide) (fun _ => kk _ _ _ _ h.2 w hl) (fun q => absurd h.1 q)
theorem hdl_X7_pin : yX7_pin.cls ≠ "java/lang/invoke/MethodHandle" ∧ yX7_pin.cls ≠ "java/lang/invoke/VarHandle" ∧ (parseMethodDescriptor yX7_pin.desc).map (fun d => d.parameters.length) = some 3 := ⟨by decide, by decide, by decide +kernel⟩
theorem hdl_X8_pin : yX8_pin.cls ≠ "java/lang/invoke/MethodHandle" ∧ yX8_pin.cls ≠ "java/lang/invoke/VarHandle" ∧ (parseMethodDescriptor yX8_pin.desc).map (fun d => d.parameters.length) = some 3 := ⟨by decide, by decide, by decide +kernel⟩
set_option maxHeartbeats 4000000 in
set_option maxRecDepth 100000 in
theorem lk_11 {p : Program} {l : Launch} {e : Env} {s : State} {m : MethodId} {args : Array Value} {below : List Frame} {meth : Method} {c : Code} {Z : State → Prop} {D : va_G} {cy : Nat → ClassId} {ad : Nat → Nat} {b L i : Nat} {xs : Nat → Int32} (X : lk_X p s m args c b L xs) (hi : i + 6 ≤ L) (kk : lk_K p l e s m args below meth c Z D cy ad i 905 b) : lk_K p l e s m args below meth c Z D cy ad i 553 b := by
  intro σ H locs ls hR w hl
  obtain ⟨hx, hb, hml, hown, hts, hX, hbl, hL⟩ := id X
  refine lv_aload_n hx hb dL_law_553 rfl (lv_at hl 2 rfl) ?_
  refine lv_aload_n hx hb dL_law_554 rfl (lv_at hl 3 rfl) ?_
  refine lv_iload_n hx hb dL_law_555 rfl (lv_at hl 0 rfl) ?_
  refine lv_iconst (v := 1) hx hb dL_law_556 (by decide) ?_
  refine lv_iadd hx hb dL_law_557 ?_
  refine lv_topi (fun z1 ez1 => ?_)
  obtain rfl : z1 = nI (i + 1) := ez1.trans (nI_add i 1)
  refine va_sld (A := fun q => s.heap.size ≤ q) (H0 := s.heap) hx hb hX hbl (Nat.not_le.mpr hbl) w.2.2.2.1 (by unfold vp_in; exact nI_in (c := i + 1) (N := L) (by omega) (by omega)) dL_law_558 ?_
  rw [nI_clamp (show i + 1 < 2 ^ 31 by omega)]
  refine lv_aload_n hx hb dL_law_559 rfl (lv_at hl 3 rfl) ?_
  refine lv_iload_n hx hb dL_law_560 rfl (lv_at hl 0 rfl) ?_
  refine lv_iconst (v := 2) hx hb dL_law_561 (by decide) ?_
  refine lv_iadd hx hb dL_law_562 ?_
  refine lv_topi (fun z2 ez2 => ?_)
  obtain rfl : z2 = nI (i + 2) := ez2.trans (nI_add i 2)
  refine va_sld (A := fun q => s.heap.size ≤ q) (H0 := s.heap) hx hb hX hbl (Nat.not_le.mpr hbl) w.2.2.2.1 (by unfold vp_in; exact nI_in (c := i + 2) (N := L) (by omega) (by omega)) dL_law_563 ?_
  rw [nI_clamp (show i + 2 < 2 ^ 31 by omega)]
  refine lv_aload_n hx hb dL_law_564 rfl (lv_at hl 3 rfl) ?_
  refine lv_iload_n hx hb dL_law_565 rfl (lv_at hl 0 rfl) ?_
  refine lv_iconst (v := 3) hx hb dL_law_566 (by decide) ?_
  refine lv_iadd hx hb dL_law_567 ?_
  refine lv_topi (fun z3 ez3 => ?_)
  obtain rfl : z3 = nI (i + 3) := ez3.trans (nI_add i 3)
  refine va_sld (A := fun q => s.heap.size ≤ q) (H0 := s.heap) hx hb hX hbl (Nat.not_le.mpr hbl) w.2.2.2.1 (by unfold vp_in; exact nI_in (c := i + 3) (N := L) (by omega) (by omega)) dL_law_568 ?_
  rw [nI_clamp (show i + 3 < 2 ^ 31 by omega)]
  have h := step_pin 100 (xs (i + 1)) (xs (i + 2)) (xs (i + 3)) σ hR
  refine lc_call hx hb hml hown hts w (k := 0) rfl rfl (as := [aI (xs (i + 1)), aI (xs (i + 2)), aI (xs (i + 3))]) (rest := []) (inr_16 (List.mem_of_getElem? (i := 16) rfl)) (inr_1 (List.mem_of_getElem? (i := 2) rfl)) (inr_16 (List.mem_of_getElem? (i := 13) rfl)) (inr_16 (List.mem_of_getElem? (i := 14) rfl)) (inr_16 (List.mem_of_getElem? (i := 15) rfl)) hdl_X7_pin ⟨Nat.le_of_ble_eq_true rfl, Nat.le_of_ble_eq_true rfl⟩ ⟨Nat.le_of_ble_eq_true rfl, Nat.le_of_ble_eq_true rfl⟩ hl.1 (Nat.le_of_ble_eq_true rfl) rfl dL_law_569 h (fun r0 σ1 H locs hq w => ?_)
  obtain ⟨y0, rfl, h⟩ := hq
  refine W.eq (g2 := F0 m 572 ls [.int y0]) rfl ?_
  refine lv_aload_n hx hb dL_law_572 rfl (lv_at hl 1 rfl) ?_
  refine lv_aload_n hx hb dL_law_573 rfl (lv_at hl 3 rfl) ?_
  refine lv_iload_n hx hb dL_law_574 rfl (lv_at hl 0 rfl) ?_
  refine lv_iconst (v := 1) hx hb dL_law_575 (by decide) ?_
  refine lv_iadd hx hb dL_law_576 ?_
  refine lv_topi (fun z4 ez4 => ?_)
  obtain rfl : z4 = nI (i + 1) := ez4.trans (nI_add i 1)
  refine va_sld (A := fun q => s.heap.size ≤ q) (H0 := s.heap) hx hb hX hbl (Nat.not_le.mpr hbl) w.2.2.2.1 (by unfold vp_in; exact nI_in (c := i + 1) (N := L) (by omega) (by omega)) dL_law_577 ?_
  rw [nI_clamp (show i + 1 < 2 ^ 31 by omega)]
  refine lv_aload_n hx hb dL_law_578 rfl (lv_at hl 3 rfl) ?_
  refine lv_iload_n hx hb dL_law_579 rfl (lv_at hl 0 rfl) ?_
  refine lv_iconst (v := 2) hx hb dL_law_580 (by decide) ?_
  refine lv_iadd hx hb dL_law_581 ?_
  refine lv_topi (fun z5 ez5 => ?_)
  obtain rfl : z5 = nI (i + 2) := ez5.trans (nI_add i 2)
  refine va_sld (A := fun q => s.heap.size ≤ q) (H0 := s.heap) hx hb hX hbl (Nat.not_le.mpr hbl) w.2.2.2.1 (by unfold vp_in; exact nI_in (c := i + 2) (N := L) (by omega) (by omega)) dL_law_582 ?_
  rw [nI_clamp (show i + 2 < 2 ^ 31 by omega)]
  refine lv_aload_n hx hb dL_law_583 rfl (lv_at hl 3 rfl) ?_
  refine lv_iload_n hx hb dL_law_584 rfl (lv_at hl 0 rfl) ?_
  refine lv_iconst (v := 3) hx hb dL_law_585 (by decide) ?_
  refine lv_iadd hx hb dL_law_586 ?_
  refine lv_topi (fun z6 ez6 => ?_)
  obtain rfl : z6 = nI (i + 3) := ez6.trans (nI_add i 3)
  refine va_sld (A := fun q => s.heap.size ≤ q) (H0 := s.heap) hx hb hX hbl (Nat.not_le.mpr hbl) w.2.2.2.1 (by unfold vp_in; exact nI_in (c := i + 3) (N := L) (by omega) (by omega)) dL_law_587 ?_
  rw [nI_clamp (show i + 3 < 2 ^ 31 by omega)]
  refine lc_call hx hb hml hown hts w (k := 132) rfl rfl (as := [aI (xs (i + 1)), aI (xs (i + 2)), aI (xs (i + 3))]) (rest := [.int y0]) (inr_17 (List.mem_of_getElem? (i := 0) rfl)) (inr_1 (List.mem_of_getElem? (i := 5) rfl)) (inr_16 (List.mem_of_getElem? (i := 21) rfl)) (inr_16 (List.mem_of_getElem? (i := 22) rfl)) (inr_16 (List.mem_of_getElem? (i := 23) rfl)) hdl_X8_pin ⟨Nat.le_of_ble_eq_true rfl, Nat.le_of_ble_eq_true rfl⟩ ⟨Nat.le_of_ble_eq_true rfl, Nat.le_of_ble_eq_true rfl⟩ hl.1 (Nat.le_of_ble_eq_true rfl) rfl dL_law_588 h (fun r1 σ2 H locs hq w => ?_)
  obtain ⟨y1, rfl, h⟩ := hq
  refine W.eq (g2 := F0 m 591 ls [.int y1, .int y0]) rfl ?_
  exact lv_icmp_eq (tgt := 905) hx hb dL_law_591 (by decide) (fun _ => kk _ _ _ _ h.2 w hl) (fun q => absurd h.1 q)
theorem hdl_X7_far : yX7_far.cls ≠ "java/lang/invoke/MethodHandle" ∧ yX7_far.cls ≠ "java/lang/invoke/VarHandle" ∧ (parseMethodDescriptor yX7_far.desc).map (fun d => d.parameters.length) = some 2 := ⟨by decide, by decide, by decide +kernel⟩
theorem hdl_X8_far : yX8_far.cls ≠ "java/lang/invoke/MethodHandle" ∧ yX8_far.cls ≠ "java/lang/invoke/VarHandle" ∧ (parseMethodDescriptor yX8_far.desc).map (fun d => d.parameters.length) = some 2 := ⟨by decide, by decide, by decide +kernel⟩
set_option maxHeartbeats 4000000 in
set_option maxRecDepth 100000 in
theorem lk_12 {p : Program} {l : Launch} {e : Env} {s : State} {m : MethodId} {args : Array Value} {below : List Frame} {meth : Method} {c : Code} {Z : State → Prop} {D : va_G} {cy : Nat → ClassId} {ad : Nat → Nat} {b L i : Nat} {xs : Nat → Int32} (X : lk_X p s m args c b L xs) (hi : i + 6 ≤ L) (kk : lk_K p l e s m args below meth c Z D cy ad i 905 b) : lk_K p l e s m args below meth c Z D cy ad i 596 b := by
  intro σ H locs ls hR w hl
  obtain ⟨hx, hb, hml, hown, hts, hX, hbl, hL⟩ := id X
  refine lv_aload_n hx hb dL_law_596 rfl (lv_at hl 2 rfl) ?_
  refine lv_aload_n hx hb dL_law_597 rfl (lv_at hl 3 rfl) ?_
  refine lv_iload_n hx hb dL_law_598 rfl (lv_at hl 0 rfl) ?_
  refine lv_iconst (v := 1) hx hb dL_law_599 (by decide) ?_
  refine lv_iadd hx hb dL_law_600 ?_
  refine lv_topi (fun z1 ez1 => ?_)
  obtain rfl : z1 = nI (i + 1) := ez1.trans (nI_add i 1)
  refine va_sld (A := fun q => s.heap.size ≤ q) (H0 := s.heap) hx hb hX hbl (Nat.not_le.mpr hbl) w.2.2.2.1 (by unfold vp_in; exact nI_in (c := i + 1) (N := L) (by omega) (by omega)) dL_law_601 ?_
  rw [nI_clamp (show i + 1 < 2 ^ 31 by omega)]
  refine lv_aload_n hx hb dL_law_602 rfl (lv_at hl 3 rfl) ?_
  refine lv_iload_n hx hb dL_law_603 rfl (lv_at hl 0 rfl) ?_
  refine lv_iconst (v := 2) hx hb dL_law_604 (by decide) ?_
  refine lv_iadd hx hb dL_law_605 ?_
  refine lv_topi (fun z2 ez2 => ?_)
  obtain rfl : z2 = nI (i + 2) := ez2.trans (nI_add i 2)
  refine va_sld (A := fun q => s.heap.size ≤ q) (H0 := s.heap) hx hb hX hbl (Nat.not_le.mpr hbl) w.2.2.2.1 (by unfold vp_in; exact nI_in (c := i + 2) (N := L) (by omega) (by omega)) dL_law_606 ?_
  rw [nI_clamp (show i + 2 < 2 ^ 31 by omega)]
  have h := step_far 100 (xs (i + 1)) (xs (i + 2)) σ hR
  refine lc_call hx hb hml hown hts w (k := 0) rfl rfl (as := [aI (xs (i + 1)), aI (xs (i + 2))]) (rest := []) (inr_17 (List.mem_of_getElem? (i := 8) rfl)) (inr_1 (List.mem_of_getElem? (i := 2) rfl)) (inr_17 (List.mem_of_getElem? (i := 5) rfl)) (inr_17 (List.mem_of_getElem? (i := 6) rfl)) (inr_17 (List.mem_of_getElem? (i := 7) rfl)) hdl_X7_far ⟨Nat.le_of_ble_eq_true rfl, Nat.le_of_ble_eq_true rfl⟩ ⟨Nat.le_of_ble_eq_true rfl, Nat.le_of_ble_eq_true rfl⟩ hl.1 (Nat.le_of_ble_eq_true rfl) rfl dL_law_607 h (fun r0 σ1 H locs hq w => ?_)
  obtain ⟨y0, rfl, h⟩ := hq
  refine W.eq (g2 := F0 m 610 ls [.int y0]) rfl ?_
  refine lv_aload_n hx hb dL_law_610 rfl (lv_at hl 1 rfl) ?_
  refine lv_aload_n hx hb dL_law_611 rfl (lv_at hl 3 rfl) ?_
  refine lv_iload_n hx hb dL_law_612 rfl (lv_at hl 0 rfl) ?_
  refine lv_iconst (v := 1) hx hb dL_law_613 (by decide) ?_
  refine lv_iadd hx hb dL_law_614 ?_
  refine lv_topi (fun z3 ez3 => ?_)
  obtain rfl : z3 = nI (i + 1) := ez3.trans (nI_add i 1)
  refine va_sld (A := fun q => s.heap.size ≤ q) (H0 := s.heap) hx hb hX hbl (Nat.not_le.mpr hbl) w.2.2.2.1 (by unfold vp_in; exact nI_in (c := i + 1) (N := L) (by omega) (by omega)) dL_law_615 ?_
  rw [nI_clamp (show i + 1 < 2 ^ 31 by omega)]
  refine lv_aload_n hx hb dL_law_616 rfl (lv_at hl 3 rfl) ?_
  refine lv_iload_n hx hb dL_law_617 rfl (lv_at hl 0 rfl) ?_
  refine lv_iconst (v := 2) hx hb dL_law_618 (by decide) ?_
  refine lv_iadd hx hb dL_law_619 ?_
  refine lv_topi (fun z4 ez4 => ?_)
  obtain rfl : z4 = nI (i + 2) := ez4.trans (nI_add i 2)
  refine va_sld (A := fun q => s.heap.size ≤ q) (H0 := s.heap) hx hb hX hbl (Nat.not_le.mpr hbl) w.2.2.2.1 (by unfold vp_in; exact nI_in (c := i + 2) (N := L) (by omega) (by omega)) dL_law_620 ?_
  rw [nI_clamp (show i + 2 < 2 ^ 31 by omega)]
  refine lc_call hx hb hml hown hts w (k := 132) rfl rfl (as := [aI (xs (i + 1)), aI (xs (i + 2))]) (rest := [.int y0]) (inr_17 (List.mem_of_getElem? (i := 12) rfl)) (inr_1 (List.mem_of_getElem? (i := 5) rfl)) (inr_17 (List.mem_of_getElem? (i := 9) rfl)) (inr_17 (List.mem_of_getElem? (i := 10) rfl)) (inr_17 (List.mem_of_getElem? (i := 11) rfl)) hdl_X8_far ⟨Nat.le_of_ble_eq_true rfl, Nat.le_of_ble_eq_true rfl⟩ ⟨Nat.le_of_ble_eq_true rfl, Nat.le_of_ble_eq_true rfl⟩ hl.1 (Nat.le_of_ble_eq_true rfl) rfl dL_law_621 h (fun r1 σ2 H locs hq w => ?_)
  obtain ⟨y1, rfl, h⟩ := hq
  refine W.eq (g2 := F0 m 624 ls [.int y1, .int y0]) rfl ?_
  exact lv_icmp_eq (tgt := 905) hx hb dL_law_624 (by decide) (fun _ => kk _ _ _ _ h.2 w hl) (fun q => absurd h.1 q)
theorem hdl_X7_simple : yX7_simple.cls ≠ "java/lang/invoke/MethodHandle" ∧ yX7_simple.cls ≠ "java/lang/invoke/VarHandle" ∧ (parseMethodDescriptor yX7_simple.desc).map (fun d => d.parameters.length) = some 3 := ⟨by decide, by decide, by decide +kernel⟩
theorem hdl_X8_simple : yX8_simple.cls ≠ "java/lang/invoke/MethodHandle" ∧ yX8_simple.cls ≠ "java/lang/invoke/VarHandle" ∧ (parseMethodDescriptor yX8_simple.desc).map (fun d => d.parameters.length) = some 3 := ⟨by decide, by decide, by decide +kernel⟩
set_option maxHeartbeats 4000000 in
set_option maxRecDepth 100000 in
theorem lk_13 {p : Program} {l : Launch} {e : Env} {s : State} {m : MethodId} {args : Array Value} {below : List Frame} {meth : Method} {c : Code} {Z : State → Prop} {D : va_G} {cy : Nat → ClassId} {ad : Nat → Nat} {b L i : Nat} {xs : Nat → Int32} (X : lk_X p s m args c b L xs) (hi : i + 6 ≤ L) (kk : lk_K p l e s m args below meth c Z D cy ad i 905 b) : lk_K p l e s m args below meth c Z D cy ad i 629 b := by
  intro σ H locs ls hR w hl
  obtain ⟨hx, hb, hml, hown, hts, hX, hbl, hL⟩ := id X
  refine lv_aload_n hx hb dL_law_629 rfl (lv_at hl 2 rfl) ?_
  refine lv_aload_n hx hb dL_law_630 rfl (lv_at hl 3 rfl) ?_
  refine lv_iload_n hx hb dL_law_631 rfl (lv_at hl 0 rfl) ?_
  refine lv_iconst (v := 1) hx hb dL_law_632 (by decide) ?_
  refine lv_iadd hx hb dL_law_633 ?_
  refine lv_topi (fun z1 ez1 => ?_)
  obtain rfl : z1 = nI (i + 1) := ez1.trans (nI_add i 1)
  refine va_sld (A := fun q => s.heap.size ≤ q) (H0 := s.heap) hx hb hX hbl (Nat.not_le.mpr hbl) w.2.2.2.1 (by unfold vp_in; exact nI_in (c := i + 1) (N := L) (by omega) (by omega)) dL_law_634 ?_
  rw [nI_clamp (show i + 1 < 2 ^ 31 by omega)]
  refine lv_aload_n hx hb dL_law_635 rfl (lv_at hl 3 rfl) ?_
  refine lv_iload_n hx hb dL_law_636 rfl (lv_at hl 0 rfl) ?_
  refine lv_iconst (v := 2) hx hb dL_law_637 (by decide) ?_
  refine lv_iadd hx hb dL_law_638 ?_
  refine lv_topi (fun z2 ez2 => ?_)
  obtain rfl : z2 = nI (i + 2) := ez2.trans (nI_add i 2)
  refine va_sld (A := fun q => s.heap.size ≤ q) (H0 := s.heap) hx hb hX hbl (Nat.not_le.mpr hbl) w.2.2.2.1 (by unfold vp_in; exact nI_in (c := i + 2) (N := L) (by omega) (by omega)) dL_law_639 ?_
  rw [nI_clamp (show i + 2 < 2 ^ 31 by omega)]
  refine lv_aload_n hx hb dL_law_640 rfl (lv_at hl 3 rfl) ?_
  refine lv_iload_n hx hb dL_law_641 rfl (lv_at hl 0 rfl) ?_
  refine lv_iconst (v := 3) hx hb dL_law_642 (by decide) ?_
  refine lv_iadd hx hb dL_law_643 ?_
  refine lv_topi (fun z3 ez3 => ?_)
  obtain rfl : z3 = nI (i + 3) := ez3.trans (nI_add i 3)
  refine va_sld (A := fun q => s.heap.size ≤ q) (H0 := s.heap) hx hb hX hbl (Nat.not_le.mpr hbl) w.2.2.2.1 (by unfold vp_in; exact nI_in (c := i + 3) (N := L) (by omega) (by omega)) dL_law_644 ?_
  rw [nI_clamp (show i + 3 < 2 ^ 31 by omega)]
  have h := step_simple 100 (xs (i + 1)) (xs (i + 2)) (xs (i + 3)) σ hR
  refine lc_call hx hb hml hown hts w (k := 0) rfl rfl (as := [aI (xs (i + 1)), aI (xs (i + 2)), aI (xs (i + 3))]) (rest := []) (inr_17 (List.mem_of_getElem? (i := 20) rfl)) (inr_1 (List.mem_of_getElem? (i := 2) rfl)) (inr_17 (List.mem_of_getElem? (i := 17) rfl)) (inr_17 (List.mem_of_getElem? (i := 18) rfl)) (inr_17 (List.mem_of_getElem? (i := 19) rfl)) hdl_X7_simple ⟨Nat.le_of_ble_eq_true rfl, Nat.le_of_ble_eq_true rfl⟩ ⟨Nat.le_of_ble_eq_true rfl, Nat.le_of_ble_eq_true rfl⟩ hl.1 (Nat.le_of_ble_eq_true rfl) rfl dL_law_645 h (fun r0 σ1 H locs hq w => ?_)
  obtain ⟨y0, rfl, h⟩ := hq
  refine W.eq (g2 := F0 m 648 ls [.int y0]) rfl ?_
  refine lv_aload_n hx hb dL_law_648 rfl (lv_at hl 1 rfl) ?_
  refine lv_aload_n hx hb dL_law_649 rfl (lv_at hl 3 rfl) ?_
  refine lv_iload_n hx hb dL_law_650 rfl (lv_at hl 0 rfl) ?_
  refine lv_iconst (v := 1) hx hb dL_law_651 (by decide) ?_
  refine lv_iadd hx hb dL_law_652 ?_
  refine lv_topi (fun z4 ez4 => ?_)
  obtain rfl : z4 = nI (i + 1) := ez4.trans (nI_add i 1)
  refine va_sld (A := fun q => s.heap.size ≤ q) (H0 := s.heap) hx hb hX hbl (Nat.not_le.mpr hbl) w.2.2.2.1 (by unfold vp_in; exact nI_in (c := i + 1) (N := L) (by omega) (by omega)) dL_law_653 ?_
  rw [nI_clamp (show i + 1 < 2 ^ 31 by omega)]
  refine lv_aload_n hx hb dL_law_654 rfl (lv_at hl 3 rfl) ?_
  refine lv_iload_n hx hb dL_law_655 rfl (lv_at hl 0 rfl) ?_
  refine lv_iconst (v := 2) hx hb dL_law_656 (by decide) ?_
  refine lv_iadd hx hb dL_law_657 ?_
  refine lv_topi (fun z5 ez5 => ?_)
  obtain rfl : z5 = nI (i + 2) := ez5.trans (nI_add i 2)
  refine va_sld (A := fun q => s.heap.size ≤ q) (H0 := s.heap) hx hb hX hbl (Nat.not_le.mpr hbl) w.2.2.2.1 (by unfold vp_in; exact nI_in (c := i + 2) (N := L) (by omega) (by omega)) dL_law_658 ?_
  rw [nI_clamp (show i + 2 < 2 ^ 31 by omega)]
  refine lv_aload_n hx hb dL_law_659 rfl (lv_at hl 3 rfl) ?_
  refine lv_iload_n hx hb dL_law_660 rfl (lv_at hl 0 rfl) ?_
  refine lv_iconst (v := 3) hx hb dL_law_661 (by decide) ?_
  refine lv_iadd hx hb dL_law_662 ?_
  refine lv_topi (fun z6 ez6 => ?_)
  obtain rfl : z6 = nI (i + 3) := ez6.trans (nI_add i 3)
  refine va_sld (A := fun q => s.heap.size ≤ q) (H0 := s.heap) hx hb hX hbl (Nat.not_le.mpr hbl) w.2.2.2.1 (by unfold vp_in; exact nI_in (c := i + 3) (N := L) (by omega) (by omega)) dL_law_663 ?_
  rw [nI_clamp (show i + 3 < 2 ^ 31 by omega)]
  refine lc_call hx hb hml hown hts w (k := 132) rfl rfl (as := [aI (xs (i + 1)), aI (xs (i + 2)), aI (xs (i + 3))]) (rest := [.int y0]) (inr_18 (List.mem_of_getElem? (i := 22) rfl)) (inr_1 (List.mem_of_getElem? (i := 5) rfl)) (inr_18 (List.mem_of_getElem? (i := 19) rfl)) (inr_18 (List.mem_of_getElem? (i := 20) rfl)) (inr_18 (List.mem_of_getElem? (i := 21) rfl)) hdl_X8_simple ⟨Nat.le_of_ble_eq_true rfl, Nat.le_of_ble_eq_true rfl⟩ ⟨Nat.le_of_ble_eq_true rfl, Nat.le_of_ble_eq_true rfl⟩ hl.1 (Nat.le_of_ble_eq_true rfl) rfl dL_law_664 h (fun r1 σ2 H locs hq w => ?_)
  obtain ⟨y1, rfl, h⟩ := hq
  refine W.eq (g2 := F0 m 667 ls [.int y1, .int y0]) rfl ?_
  exact lv_icmp_eq (tgt := 905) hx hb dL_law_667 (by decide) (fun _ => kk _ _ _ _ h.2 w hl) (fun q => absurd h.1 q)
theorem hdl_X7_simplify : yX7_simplify.cls ≠ "java/lang/invoke/MethodHandle" ∧ yX7_simplify.cls ≠ "java/lang/invoke/VarHandle" ∧ (parseMethodDescriptor yX7_simplify.desc).map (fun d => d.parameters.length) = some 2 := ⟨by decide, by decide, by decide +kernel⟩
theorem hdl_X8_simplify : yX8_simplify.cls ≠ "java/lang/invoke/MethodHandle" ∧ yX8_simplify.cls ≠ "java/lang/invoke/VarHandle" ∧ (parseMethodDescriptor yX8_simplify.desc).map (fun d => d.parameters.length) = some 2 := ⟨by decide, by decide, by decide +kernel⟩
set_option maxHeartbeats 4000000 in
set_option maxRecDepth 100000 in
theorem lk_14 {p : Program} {l : Launch} {e : Env} {s : State} {m : MethodId} {args : Array Value} {below : List Frame} {meth : Method} {c : Code} {Z : State → Prop} {D : va_G} {cy : Nat → ClassId} {ad : Nat → Nat} {b L i : Nat} {xs : Nat → Int32} (X : lk_X p s m args c b L xs) (hi : i + 6 ≤ L) (kk : lk_K p l e s m args below meth c Z D cy ad i 905 b) : lk_K p l e s m args below meth c Z D cy ad i 672 b := by
  intro σ H locs ls hR w hl
  obtain ⟨hx, hb, hml, hown, hts, hX, hbl, hL⟩ := id X
  refine lv_aload_n hx hb dL_law_672 rfl (lv_at hl 2 rfl) ?_
  refine lv_aload_n hx hb dL_law_673 rfl (lv_at hl 3 rfl) ?_
  refine lv_iload_n hx hb dL_law_674 rfl (lv_at hl 0 rfl) ?_
  refine lv_iconst (v := 1) hx hb dL_law_675 (by decide) ?_
  refine lv_iadd hx hb dL_law_676 ?_
  refine lv_topi (fun z1 ez1 => ?_)
  obtain rfl : z1 = nI (i + 1) := ez1.trans (nI_add i 1)
  refine va_sld (A := fun q => s.heap.size ≤ q) (H0 := s.heap) hx hb hX hbl (Nat.not_le.mpr hbl) w.2.2.2.1 (by unfold vp_in; exact nI_in (c := i + 1) (N := L) (by omega) (by omega)) dL_law_677 ?_
  rw [nI_clamp (show i + 1 < 2 ^ 31 by omega)]
  refine lv_aload_n hx hb dL_law_678 rfl (lv_at hl 3 rfl) ?_
  refine lv_iload_n hx hb dL_law_679 rfl (lv_at hl 0 rfl) ?_
  refine lv_iconst (v := 2) hx hb dL_law_680 (by decide) ?_
  refine lv_iadd hx hb dL_law_681 ?_
  refine lv_topi (fun z2 ez2 => ?_)
  obtain rfl : z2 = nI (i + 2) := ez2.trans (nI_add i 2)
  refine va_sld (A := fun q => s.heap.size ≤ q) (H0 := s.heap) hx hb hX hbl (Nat.not_le.mpr hbl) w.2.2.2.1 (by unfold vp_in; exact nI_in (c := i + 2) (N := L) (by omega) (by omega)) dL_law_682 ?_
  rw [nI_clamp (show i + 2 < 2 ^ 31 by omega)]
  have h := step_simplify 100 (xs (i + 1)) (xs (i + 2)) σ hR
  refine lc_call hx hb hml hown hts w (k := 0) rfl rfl (as := [aI (xs (i + 1)), aI (xs (i + 2))]) (rest := []) (inr_20 (List.mem_of_getElem? (i := 4) rfl)) (inr_1 (List.mem_of_getElem? (i := 2) rfl)) (inr_20 (List.mem_of_getElem? (i := 1) rfl)) (inr_20 (List.mem_of_getElem? (i := 2) rfl)) (inr_20 (List.mem_of_getElem? (i := 3) rfl)) hdl_X7_simplify ⟨Nat.le_of_ble_eq_true rfl, Nat.le_of_ble_eq_true rfl⟩ ⟨Nat.le_of_ble_eq_true rfl, Nat.le_of_ble_eq_true rfl⟩ hl.1 (Nat.le_of_ble_eq_true rfl) rfl dL_law_683 h (fun r0 σ1 H locs hq w => ?_)
  obtain ⟨y0, rfl, h⟩ := hq
  refine W.eq (g2 := F0 m 686 ls [.int y0]) rfl ?_
  refine lv_aload_n hx hb dL_law_686 rfl (lv_at hl 1 rfl) ?_
  refine lv_aload_n hx hb dL_law_687 rfl (lv_at hl 3 rfl) ?_
  refine lv_iload_n hx hb dL_law_688 rfl (lv_at hl 0 rfl) ?_
  refine lv_iconst (v := 1) hx hb dL_law_689 (by decide) ?_
  refine lv_iadd hx hb dL_law_690 ?_
  refine lv_topi (fun z3 ez3 => ?_)
  obtain rfl : z3 = nI (i + 1) := ez3.trans (nI_add i 1)
  refine va_sld (A := fun q => s.heap.size ≤ q) (H0 := s.heap) hx hb hX hbl (Nat.not_le.mpr hbl) w.2.2.2.1 (by unfold vp_in; exact nI_in (c := i + 1) (N := L) (by omega) (by omega)) dL_law_691 ?_
  rw [nI_clamp (show i + 1 < 2 ^ 31 by omega)]
  refine lv_aload_n hx hb dL_law_692 rfl (lv_at hl 3 rfl) ?_
  refine lv_iload_n hx hb dL_law_693 rfl (lv_at hl 0 rfl) ?_
  refine lv_iconst (v := 2) hx hb dL_law_694 (by decide) ?_
  refine lv_iadd hx hb dL_law_695 ?_
  refine lv_topi (fun z4 ez4 => ?_)
  obtain rfl : z4 = nI (i + 2) := ez4.trans (nI_add i 2)
  refine va_sld (A := fun q => s.heap.size ≤ q) (H0 := s.heap) hx hb hX hbl (Nat.not_le.mpr hbl) w.2.2.2.1 (by unfold vp_in; exact nI_in (c := i + 2) (N := L) (by omega) (by omega)) dL_law_696 ?_
  rw [nI_clamp (show i + 2 < 2 ^ 31 by omega)]
  refine lc_call hx hb hml hown hts w (k := 132) rfl rfl (as := [aI (xs (i + 1)), aI (xs (i + 2))]) (rest := [.int y0]) (inr_20 (List.mem_of_getElem? (i := 13) rfl)) (inr_1 (List.mem_of_getElem? (i := 5) rfl)) (inr_20 (List.mem_of_getElem? (i := 10) rfl)) (inr_20 (List.mem_of_getElem? (i := 11) rfl)) (inr_20 (List.mem_of_getElem? (i := 12) rfl)) hdl_X8_simplify ⟨Nat.le_of_ble_eq_true rfl, Nat.le_of_ble_eq_true rfl⟩ ⟨Nat.le_of_ble_eq_true rfl, Nat.le_of_ble_eq_true rfl⟩ hl.1 (Nat.le_of_ble_eq_true rfl) rfl dL_law_697 h (fun r1 σ2 H locs hq w => ?_)
  obtain ⟨y1, rfl, h⟩ := hq
  refine W.eq (g2 := F0 m 700 ls [.int y1, .int y0]) rfl ?_
  exact lv_icmp_eq (tgt := 905) hx hb dL_law_700 (by decide) (fun _ => kk _ _ _ _ h.2 w hl) (fun q => absurd h.1 q)
theorem hdl_X7_kept : yX7_kept.cls ≠ "java/lang/invoke/MethodHandle" ∧ yX7_kept.cls ≠ "java/lang/invoke/VarHandle" ∧ (parseMethodDescriptor yX7_kept.desc).map (fun d => d.parameters.length) = some 0 := ⟨by decide, by decide, by decide +kernel⟩
theorem hdl_X8_kept : yX8_kept.cls ≠ "java/lang/invoke/MethodHandle" ∧ yX8_kept.cls ≠ "java/lang/invoke/VarHandle" ∧ (parseMethodDescriptor yX8_kept.desc).map (fun d => d.parameters.length) = some 0 := ⟨by decide, by decide, by decide +kernel⟩
set_option maxHeartbeats 4000000 in
set_option maxRecDepth 100000 in
theorem lk_15 {p : Program} {l : Launch} {e : Env} {s : State} {m : MethodId} {args : Array Value} {below : List Frame} {meth : Method} {c : Code} {Z : State → Prop} {D : va_G} {cy : Nat → ClassId} {ad : Nat → Nat} {b L i : Nat} {xs : Nat → Int32} (X : lk_X p s m args c b L xs) (hi : i + 6 ≤ L) (kk : lk_K p l e s m args below meth c Z D cy ad i 905 b) : lk_K p l e s m args below meth c Z D cy ad i 705 b := by
  intro σ H locs ls hR w hl
  obtain ⟨hx, hb, hml, hown, hts, hX, hbl, hL⟩ := id X
  refine lv_aload_n hx hb dL_law_705 rfl (lv_at hl 2 rfl) ?_
  have h := step_kept 100  σ hR
  refine lc_call hx hb hml hown hts w (k := 0) rfl rfl (as := []) (rest := []) (inr_20 (List.mem_of_getElem? (i := 17) rfl)) (inr_1 (List.mem_of_getElem? (i := 2) rfl)) (inr_20 (List.mem_of_getElem? (i := 14) rfl)) (inr_20 (List.mem_of_getElem? (i := 15) rfl)) (inr_20 (List.mem_of_getElem? (i := 16) rfl)) hdl_X7_kept ⟨Nat.le_of_ble_eq_true rfl, Nat.le_of_ble_eq_true rfl⟩ ⟨Nat.le_of_ble_eq_true rfl, Nat.le_of_ble_eq_true rfl⟩ hl.1 (Nat.le_of_ble_eq_true rfl) rfl dL_law_706 h (fun r0 σ1 H locs hq w => ?_)
  obtain ⟨y0, rfl, h⟩ := hq
  refine W.eq (g2 := F0 m 709 ls [.int y0]) rfl ?_
  refine lv_aload_n hx hb dL_law_709 rfl (lv_at hl 1 rfl) ?_
  refine lc_call hx hb hml hown hts w (k := 132) rfl rfl (as := []) (rest := [.int y0]) (inr_21 (List.mem_of_getElem? (i := 20) rfl)) (inr_1 (List.mem_of_getElem? (i := 5) rfl)) (inr_21 (List.mem_of_getElem? (i := 17) rfl)) (inr_21 (List.mem_of_getElem? (i := 18) rfl)) (inr_21 (List.mem_of_getElem? (i := 19) rfl)) hdl_X8_kept ⟨Nat.le_of_ble_eq_true rfl, Nat.le_of_ble_eq_true rfl⟩ ⟨Nat.le_of_ble_eq_true rfl, Nat.le_of_ble_eq_true rfl⟩ hl.1 (Nat.le_of_ble_eq_true rfl) rfl dL_law_710 h (fun r1 σ2 H locs hq w => ?_)
  obtain ⟨y1, rfl, h⟩ := hq
  refine W.eq (g2 := F0 m 713 ls [.int y1, .int y0]) rfl ?_
  exact lv_icmp_eq (tgt := 905) hx hb dL_law_713 (by decide) (fun _ => kk _ _ _ _ h.2 w hl) (fun q => absurd h.1 q)
theorem hdl_X7_loss : yX7_loss.cls ≠ "java/lang/invoke/MethodHandle" ∧ yX7_loss.cls ≠ "java/lang/invoke/VarHandle" ∧ (parseMethodDescriptor yX7_loss.desc).map (fun d => d.parameters.length) = some 0 := ⟨by decide, by decide, by decide +kernel⟩
theorem hdl_X8_loss : yX8_loss.cls ≠ "java/lang/invoke/MethodHandle" ∧ yX8_loss.cls ≠ "java/lang/invoke/VarHandle" ∧ (parseMethodDescriptor yX8_loss.desc).map (fun d => d.parameters.length) = some 0 := ⟨by decide, by decide, by decide +kernel⟩
set_option maxHeartbeats 4000000 in
set_option maxRecDepth 100000 in
theorem lk_16 {p : Program} {l : Launch} {e : Env} {s : State} {m : MethodId} {args : Array Value} {below : List Frame} {meth : Method} {c : Code} {Z : State → Prop} {D : va_G} {cy : Nat → ClassId} {ad : Nat → Nat} {b L i : Nat} {xs : Nat → Int32} (X : lk_X p s m args c b L xs) (hi : i + 6 ≤ L) (kk : lk_K p l e s m args below meth c Z D cy ad i 905 b) : lk_K p l e s m args below meth c Z D cy ad i 718 b := by
  intro σ H locs ls hR w hl
  obtain ⟨hx, hb, hml, hown, hts, hX, hbl, hL⟩ := id X
  refine lv_aload_n hx hb dL_law_718 rfl (lv_at hl 2 rfl) ?_
  have h := step_loss 100  σ hR
  refine lc_call hx hb hml hown hts w (k := 0) rfl rfl (as := []) (rest := []) (inr_22 (List.mem_of_getElem? (i := 8) rfl)) (inr_1 (List.mem_of_getElem? (i := 2) rfl)) (inr_22 (List.mem_of_getElem? (i := 5) rfl)) (inr_22 (List.mem_of_getElem? (i := 6) rfl)) (inr_22 (List.mem_of_getElem? (i := 7) rfl)) hdl_X7_loss ⟨Nat.le_of_ble_eq_true rfl, Nat.le_of_ble_eq_true rfl⟩ ⟨Nat.le_of_ble_eq_true rfl, Nat.le_of_ble_eq_true rfl⟩ hl.1 (Nat.le_of_ble_eq_true rfl) rfl dL_law_719 h (fun r0 σ1 H locs hq w => ?_)
  obtain ⟨y0, rfl, h⟩ := hq
  refine W.eq (g2 := F0 m 722 ls [.int y0]) rfl ?_
  refine lv_aload_n hx hb dL_law_722 rfl (lv_at hl 1 rfl) ?_
  refine lc_call hx hb hml hown hts w (k := 132) rfl rfl (as := []) (rest := [.int y0]) (inr_22 (List.mem_of_getElem? (i := 12) rfl)) (inr_1 (List.mem_of_getElem? (i := 5) rfl)) (inr_22 (List.mem_of_getElem? (i := 9) rfl)) (inr_22 (List.mem_of_getElem? (i := 10) rfl)) (inr_22 (List.mem_of_getElem? (i := 11) rfl)) hdl_X8_loss ⟨Nat.le_of_ble_eq_true rfl, Nat.le_of_ble_eq_true rfl⟩ ⟨Nat.le_of_ble_eq_true rfl, Nat.le_of_ble_eq_true rfl⟩ hl.1 (Nat.le_of_ble_eq_true rfl) rfl dL_law_723 h (fun r1 σ2 H locs hq w => ?_)
  obtain ⟨y1, rfl, h⟩ := hq
  refine W.eq (g2 := F0 m 726 ls [.int y1, .int y0]) rfl ?_
  exact lv_icmp_eq (tgt := 905) hx hb dL_law_726 (by decide) (fun _ => kk _ _ _ _ h.2 w hl) (fun q => absurd h.1 q)
theorem hdl_X7_sheets : yX7_sheets.cls ≠ "java/lang/invoke/MethodHandle" ∧ yX7_sheets.cls ≠ "java/lang/invoke/VarHandle" ∧ (parseMethodDescriptor yX7_sheets.desc).map (fun d => d.parameters.length) = some 0 := ⟨by decide, by decide, by decide +kernel⟩
theorem hdl_X8_sheets : yX8_sheets.cls ≠ "java/lang/invoke/MethodHandle" ∧ yX8_sheets.cls ≠ "java/lang/invoke/VarHandle" ∧ (parseMethodDescriptor yX8_sheets.desc).map (fun d => d.parameters.length) = some 0 := ⟨by decide, by decide, by decide +kernel⟩
set_option maxHeartbeats 4000000 in
set_option maxRecDepth 100000 in
theorem lk_17 {p : Program} {l : Launch} {e : Env} {s : State} {m : MethodId} {args : Array Value} {below : List Frame} {meth : Method} {c : Code} {Z : State → Prop} {D : va_G} {cy : Nat → ClassId} {ad : Nat → Nat} {b L i : Nat} {xs : Nat → Int32} (X : lk_X p s m args c b L xs) (hi : i + 6 ≤ L) (kk : lk_K p l e s m args below meth c Z D cy ad i 905 b) : lk_K p l e s m args below meth c Z D cy ad i 731 b := by
  intro σ H locs ls hR w hl
  obtain ⟨hx, hb, hml, hown, hts, hX, hbl, hL⟩ := id X
  refine lv_aload_n hx hb dL_law_731 rfl (lv_at hl 2 rfl) ?_
  have h := step_sheets 100  σ hR
  refine lc_call hx hb hml hown hts w (k := 0) rfl rfl (as := []) (rest := []) (inr_22 (List.mem_of_getElem? (i := 17) rfl)) (inr_1 (List.mem_of_getElem? (i := 2) rfl)) (inr_22 (List.mem_of_getElem? (i := 14) rfl)) (inr_22 (List.mem_of_getElem? (i := 15) rfl)) (inr_22 (List.mem_of_getElem? (i := 16) rfl)) hdl_X7_sheets ⟨Nat.le_of_ble_eq_true rfl, Nat.le_of_ble_eq_true rfl⟩ ⟨Nat.le_of_ble_eq_true rfl, Nat.le_of_ble_eq_true rfl⟩ hl.1 (Nat.le_of_ble_eq_true rfl) rfl dL_law_732 h (fun r0 σ1 H locs hq w => ?_)
  obtain ⟨y0, rfl, h⟩ := hq
  refine W.eq (g2 := F0 m 735 ls [.int y0]) rfl ?_
  refine lv_aload_n hx hb dL_law_735 rfl (lv_at hl 1 rfl) ?_
  refine lc_call hx hb hml hown hts w (k := 132) rfl rfl (as := []) (rest := [.int y0]) (inr_23 (List.mem_of_getElem? (i := 16) rfl)) (inr_1 (List.mem_of_getElem? (i := 5) rfl)) (inr_23 (List.mem_of_getElem? (i := 13) rfl)) (inr_23 (List.mem_of_getElem? (i := 14) rfl)) (inr_23 (List.mem_of_getElem? (i := 15) rfl)) hdl_X8_sheets ⟨Nat.le_of_ble_eq_true rfl, Nat.le_of_ble_eq_true rfl⟩ ⟨Nat.le_of_ble_eq_true rfl, Nat.le_of_ble_eq_true rfl⟩ hl.1 (Nat.le_of_ble_eq_true rfl) rfl dL_law_736 h (fun r1 σ2 H locs hq w => ?_)
  obtain ⟨y1, rfl, h⟩ := hq
  refine W.eq (g2 := F0 m 739 ls [.int y1, .int y0]) rfl ?_
  exact lv_icmp_eq (tgt := 905) hx hb dL_law_739 (by decide) (fun _ => kk _ _ _ _ h.2 w hl) (fun q => absurd h.1 q)
theorem hdl_X7_sheet : yX7_sheet.cls ≠ "java/lang/invoke/MethodHandle" ∧ yX7_sheet.cls ≠ "java/lang/invoke/VarHandle" ∧ (parseMethodDescriptor yX7_sheet.desc).map (fun d => d.parameters.length) = some 1 := ⟨by decide, by decide, by decide +kernel⟩
theorem hdl_X8_sheet : yX8_sheet.cls ≠ "java/lang/invoke/MethodHandle" ∧ yX8_sheet.cls ≠ "java/lang/invoke/VarHandle" ∧ (parseMethodDescriptor yX8_sheet.desc).map (fun d => d.parameters.length) = some 1 := ⟨by decide, by decide, by decide +kernel⟩
set_option maxHeartbeats 4000000 in
set_option maxRecDepth 100000 in
theorem lk_18 {p : Program} {l : Launch} {e : Env} {s : State} {m : MethodId} {args : Array Value} {below : List Frame} {meth : Method} {c : Code} {Z : State → Prop} {D : va_G} {cy : Nat → ClassId} {ad : Nat → Nat} {b L i : Nat} {xs : Nat → Int32} (X : lk_X p s m args c b L xs) (hi : i + 6 ≤ L) (kk : lk_K p l e s m args below meth c Z D cy ad i 905 b) : lk_K p l e s m args below meth c Z D cy ad i 744 b := by
  intro σ H locs ls hR w hl
  obtain ⟨hx, hb, hml, hown, hts, hX, hbl, hL⟩ := id X
  refine lv_aload_n hx hb dL_law_744 rfl (lv_at hl 2 rfl) ?_
  refine lv_aload_n hx hb dL_law_745 rfl (lv_at hl 3 rfl) ?_
  refine lv_iload_n hx hb dL_law_746 rfl (lv_at hl 0 rfl) ?_
  refine lv_iconst (v := 1) hx hb dL_law_747 (by decide) ?_
  refine lv_iadd hx hb dL_law_748 ?_
  refine lv_topi (fun z1 ez1 => ?_)
  obtain rfl : z1 = nI (i + 1) := ez1.trans (nI_add i 1)
  refine va_sld (A := fun q => s.heap.size ≤ q) (H0 := s.heap) hx hb hX hbl (Nat.not_le.mpr hbl) w.2.2.2.1 (by unfold vp_in; exact nI_in (c := i + 1) (N := L) (by omega) (by omega)) dL_law_749 ?_
  rw [nI_clamp (show i + 1 < 2 ^ 31 by omega)]
  have h := step_sheet 100 (xs (i + 1)) σ hR
  refine lc_call hx hb hml hown hts w (k := 0) rfl rfl (as := [aI (xs (i + 1))]) (rest := []) (inr_24 (List.mem_of_getElem? (i := 0) rfl)) (inr_1 (List.mem_of_getElem? (i := 2) rfl)) (inr_23 (List.mem_of_getElem? (i := 21) rfl)) (inr_23 (List.mem_of_getElem? (i := 22) rfl)) (inr_23 (List.mem_of_getElem? (i := 23) rfl)) hdl_X7_sheet ⟨Nat.le_of_ble_eq_true rfl, Nat.le_of_ble_eq_true rfl⟩ ⟨Nat.le_of_ble_eq_true rfl, Nat.le_of_ble_eq_true rfl⟩ hl.1 (Nat.le_of_ble_eq_true rfl) rfl dL_law_750 h (fun r0 σ1 H locs hq w => ?_)
  obtain ⟨y0, rfl, h⟩ := hq
  refine W.eq (g2 := F0 m 753 ls [.int y0]) rfl ?_
  refine lv_aload_n hx hb dL_law_753 rfl (lv_at hl 1 rfl) ?_
  refine lv_aload_n hx hb dL_law_754 rfl (lv_at hl 3 rfl) ?_
  refine lv_iload_n hx hb dL_law_755 rfl (lv_at hl 0 rfl) ?_
  refine lv_iconst (v := 1) hx hb dL_law_756 (by decide) ?_
  refine lv_iadd hx hb dL_law_757 ?_
  refine lv_topi (fun z2 ez2 => ?_)
  obtain rfl : z2 = nI (i + 1) := ez2.trans (nI_add i 1)
  refine va_sld (A := fun q => s.heap.size ≤ q) (H0 := s.heap) hx hb hX hbl (Nat.not_le.mpr hbl) w.2.2.2.1 (by unfold vp_in; exact nI_in (c := i + 1) (N := L) (by omega) (by omega)) dL_law_758 ?_
  rw [nI_clamp (show i + 1 < 2 ^ 31 by omega)]
  refine lc_call hx hb hml hown hts w (k := 132) rfl rfl (as := [aI (xs (i + 1))]) (rest := [.int y0]) (inr_24 (List.mem_of_getElem? (i := 5) rfl)) (inr_1 (List.mem_of_getElem? (i := 5) rfl)) (inr_24 (List.mem_of_getElem? (i := 2) rfl)) (inr_24 (List.mem_of_getElem? (i := 3) rfl)) (inr_24 (List.mem_of_getElem? (i := 4) rfl)) hdl_X8_sheet ⟨Nat.le_of_ble_eq_true rfl, Nat.le_of_ble_eq_true rfl⟩ ⟨Nat.le_of_ble_eq_true rfl, Nat.le_of_ble_eq_true rfl⟩ hl.1 (Nat.le_of_ble_eq_true rfl) rfl dL_law_759 h (fun r1 σ2 H locs hq w => ?_)
  obtain ⟨y1, rfl, h⟩ := hq
  refine W.eq (g2 := F0 m 762 ls [.int y1, .int y0]) rfl ?_
  exact lv_icmp_eq (tgt := 905) hx hb dL_law_762 (by decide) (fun _ => kk _ _ _ _ h.2 w hl) (fun q => absurd h.1 q)
theorem hdl_X7_texture : yX7_texture.cls ≠ "java/lang/invoke/MethodHandle" ∧ yX7_texture.cls ≠ "java/lang/invoke/VarHandle" ∧ (parseMethodDescriptor yX7_texture.desc).map (fun d => d.parameters.length) = some 1 := ⟨by decide, by decide, by decide +kernel⟩
theorem hdl_X8_texture : yX8_texture.cls ≠ "java/lang/invoke/MethodHandle" ∧ yX8_texture.cls ≠ "java/lang/invoke/VarHandle" ∧ (parseMethodDescriptor yX8_texture.desc).map (fun d => d.parameters.length) = some 1 := ⟨by decide, by decide, by decide +kernel⟩
set_option maxHeartbeats 4000000 in
set_option maxRecDepth 100000 in
theorem lk_19 {p : Program} {l : Launch} {e : Env} {s : State} {m : MethodId} {args : Array Value} {below : List Frame} {meth : Method} {c : Code} {Z : State → Prop} {D : va_G} {cy : Nat → ClassId} {ad : Nat → Nat} {b L i : Nat} {xs : Nat → Int32} (X : lk_X p s m args c b L xs) (hi : i + 6 ≤ L) (kk : lk_K p l e s m args below meth c Z D cy ad i 905 b) : lk_K p l e s m args below meth c Z D cy ad i 767 b := by
  intro σ H locs ls hR w hl
  obtain ⟨hx, hb, hml, hown, hts, hX, hbl, hL⟩ := id X
  refine lv_aload_n hx hb dL_law_767 rfl (lv_at hl 2 rfl) ?_
  refine lv_aload_n hx hb dL_law_768 rfl (lv_at hl 3 rfl) ?_
  refine lv_iload_n hx hb dL_law_769 rfl (lv_at hl 0 rfl) ?_
  refine lv_iconst (v := 1) hx hb dL_law_770 (by decide) ?_
  refine lv_iadd hx hb dL_law_771 ?_
  refine lv_topi (fun z1 ez1 => ?_)
  obtain rfl : z1 = nI (i + 1) := ez1.trans (nI_add i 1)
  refine va_sld (A := fun q => s.heap.size ≤ q) (H0 := s.heap) hx hb hX hbl (Nat.not_le.mpr hbl) w.2.2.2.1 (by unfold vp_in; exact nI_in (c := i + 1) (N := L) (by omega) (by omega)) dL_law_772 ?_
  rw [nI_clamp (show i + 1 < 2 ^ 31 by omega)]
  have h := step_texture 100 (xs (i + 1)) σ hR
  refine lc_call hx hb hml hown hts w (k := 0) rfl rfl (as := [aI (xs (i + 1))]) (rest := []) (inr_24 (List.mem_of_getElem? (i := 10) rfl)) (inr_1 (List.mem_of_getElem? (i := 2) rfl)) (inr_24 (List.mem_of_getElem? (i := 7) rfl)) (inr_24 (List.mem_of_getElem? (i := 8) rfl)) (inr_24 (List.mem_of_getElem? (i := 9) rfl)) hdl_X7_texture ⟨Nat.le_of_ble_eq_true rfl, Nat.le_of_ble_eq_true rfl⟩ ⟨Nat.le_of_ble_eq_true rfl, Nat.le_of_ble_eq_true rfl⟩ hl.1 (Nat.le_of_ble_eq_true rfl) rfl dL_law_773 h (fun r0 σ1 H locs hq w => ?_)
  obtain ⟨y0, rfl, h⟩ := hq
  refine W.eq (g2 := F0 m 776 ls [.int y0]) rfl ?_
  refine lv_aload_n hx hb dL_law_776 rfl (lv_at hl 1 rfl) ?_
  refine lv_aload_n hx hb dL_law_777 rfl (lv_at hl 3 rfl) ?_
  refine lv_iload_n hx hb dL_law_778 rfl (lv_at hl 0 rfl) ?_
  refine lv_iconst (v := 1) hx hb dL_law_779 (by decide) ?_
  refine lv_iadd hx hb dL_law_780 ?_
  refine lv_topi (fun z2 ez2 => ?_)
  obtain rfl : z2 = nI (i + 1) := ez2.trans (nI_add i 1)
  refine va_sld (A := fun q => s.heap.size ≤ q) (H0 := s.heap) hx hb hX hbl (Nat.not_le.mpr hbl) w.2.2.2.1 (by unfold vp_in; exact nI_in (c := i + 1) (N := L) (by omega) (by omega)) dL_law_781 ?_
  rw [nI_clamp (show i + 1 < 2 ^ 31 by omega)]
  refine lc_call hx hb hml hown hts w (k := 132) rfl rfl (as := [aI (xs (i + 1))]) (rest := [.int y0]) (inr_27 (List.mem_of_getElem? (i := 10) rfl)) (inr_1 (List.mem_of_getElem? (i := 5) rfl)) (inr_27 (List.mem_of_getElem? (i := 7) rfl)) (inr_27 (List.mem_of_getElem? (i := 8) rfl)) (inr_27 (List.mem_of_getElem? (i := 9) rfl)) hdl_X8_texture ⟨Nat.le_of_ble_eq_true rfl, Nat.le_of_ble_eq_true rfl⟩ ⟨Nat.le_of_ble_eq_true rfl, Nat.le_of_ble_eq_true rfl⟩ hl.1 (Nat.le_of_ble_eq_true rfl) rfl dL_law_782 h (fun r1 σ2 H locs hq w => ?_)
  obtain ⟨y1, rfl, h⟩ := hq
  refine W.eq (g2 := F0 m 785 ls [.int y1, .int y0]) rfl ?_
  exact lv_icmp_eq (tgt := 905) hx hb dL_law_785 (by decide) (fun _ => kk _ _ _ _ h.2 w hl) (fun q => absurd h.1 q)
theorem hdl_X7_cost : yX7_cost.cls ≠ "java/lang/invoke/MethodHandle" ∧ yX7_cost.cls ≠ "java/lang/invoke/VarHandle" ∧ (parseMethodDescriptor yX7_cost.desc).map (fun d => d.parameters.length) = some 0 := ⟨by decide, by decide, by decide +kernel⟩
theorem hdl_X8_cost : yX8_cost.cls ≠ "java/lang/invoke/MethodHandle" ∧ yX8_cost.cls ≠ "java/lang/invoke/VarHandle" ∧ (parseMethodDescriptor yX8_cost.desc).map (fun d => d.parameters.length) = some 0 := ⟨by decide, by decide, by decide +kernel⟩
set_option maxHeartbeats 4000000 in
set_option maxRecDepth 100000 in
theorem lk_20 {p : Program} {l : Launch} {e : Env} {s : State} {m : MethodId} {args : Array Value} {below : List Frame} {meth : Method} {c : Code} {Z : State → Prop} {D : va_G} {cy : Nat → ClassId} {ad : Nat → Nat} {b L i : Nat} {xs : Nat → Int32} (X : lk_X p s m args c b L xs) (hi : i + 6 ≤ L) (kk : lk_K p l e s m args below meth c Z D cy ad i 905 b) : lk_K p l e s m args below meth c Z D cy ad i 790 b := by
  intro σ H locs ls hR w hl
  obtain ⟨hx, hb, hml, hown, hts, hX, hbl, hL⟩ := id X
  refine lv_aload_n hx hb dL_law_790 rfl (lv_at hl 2 rfl) ?_
  have h := step_cost 100  σ hR
  refine lc_call hx hb hml hown hts w (k := 0) rfl rfl (as := []) (rest := []) (inr_28 (List.mem_of_getElem? (i := 0) rfl)) (inr_1 (List.mem_of_getElem? (i := 2) rfl)) (inr_27 (List.mem_of_getElem? (i := 21) rfl)) (inr_27 (List.mem_of_getElem? (i := 22) rfl)) (inr_27 (List.mem_of_getElem? (i := 23) rfl)) hdl_X7_cost ⟨Nat.le_of_ble_eq_true rfl, Nat.le_of_ble_eq_true rfl⟩ ⟨Nat.le_of_ble_eq_true rfl, Nat.le_of_ble_eq_true rfl⟩ hl.1 (Nat.le_of_ble_eq_true rfl) rfl dL_law_791 h (fun r0 σ1 H locs hq w => ?_)
  obtain ⟨y0, rfl, h⟩ := hq
  refine W.eq (g2 := F0 m 794 ls [.int y0]) rfl ?_
  refine lv_aload_n hx hb dL_law_794 rfl (lv_at hl 1 rfl) ?_
  refine lc_call hx hb hml hown hts w (k := 132) rfl rfl (as := []) (rest := [.int y0]) (inr_28 (List.mem_of_getElem? (i := 8) rfl)) (inr_1 (List.mem_of_getElem? (i := 5) rfl)) (inr_28 (List.mem_of_getElem? (i := 5) rfl)) (inr_28 (List.mem_of_getElem? (i := 6) rfl)) (inr_28 (List.mem_of_getElem? (i := 7) rfl)) hdl_X8_cost ⟨Nat.le_of_ble_eq_true rfl, Nat.le_of_ble_eq_true rfl⟩ ⟨Nat.le_of_ble_eq_true rfl, Nat.le_of_ble_eq_true rfl⟩ hl.1 (Nat.le_of_ble_eq_true rfl) rfl dL_law_795 h (fun r1 σ2 H locs hq w => ?_)
  obtain ⟨y1, rfl, h⟩ := hq
  refine W.eq (g2 := F0 m 798 ls [.int y1, .int y0]) rfl ?_
  exact lv_icmp_eq (tgt := 905) hx hb dL_law_798 (by decide) (fun _ => kk _ _ _ _ h.2 w hl) (fun q => absurd h.1 q)
theorem hdl_X7_print : yX7_print.cls ≠ "java/lang/invoke/MethodHandle" ∧ yX7_print.cls ≠ "java/lang/invoke/VarHandle" ∧ (parseMethodDescriptor yX7_print.desc).map (fun d => d.parameters.length) = some 1 := ⟨by decide, by decide, by decide +kernel⟩
theorem hdl_X8_print : yX8_print.cls ≠ "java/lang/invoke/MethodHandle" ∧ yX8_print.cls ≠ "java/lang/invoke/VarHandle" ∧ (parseMethodDescriptor yX8_print.desc).map (fun d => d.parameters.length) = some 1 := ⟨by decide, by decide, by decide +kernel⟩
set_option maxHeartbeats 4000000 in
set_option maxRecDepth 100000 in
theorem lk_21 {p : Program} {l : Launch} {e : Env} {s : State} {m : MethodId} {args : Array Value} {below : List Frame} {meth : Method} {c : Code} {Z : State → Prop} {D : va_G} {cy : Nat → ClassId} {ad : Nat → Nat} {b L i : Nat} {xs : Nat → Int32} (X : lk_X p s m args c b L xs) (hi : i + 6 ≤ L) (kk : lk_K p l e s m args below meth c Z D cy ad i 905 b) : lk_K p l e s m args below meth c Z D cy ad i 803 b := by
  intro σ H locs ls hR w hl
  obtain ⟨hx, hb, hml, hown, hts, hX, hbl, hL⟩ := id X
  refine lv_aload_n hx hb dL_law_803 rfl (lv_at hl 2 rfl) ?_
  refine lv_aload_n hx hb dL_law_804 rfl (lv_at hl 3 rfl) ?_
  refine lv_iload_n hx hb dL_law_805 rfl (lv_at hl 0 rfl) ?_
  refine lv_iconst (v := 1) hx hb dL_law_806 (by decide) ?_
  refine lv_iadd hx hb dL_law_807 ?_
  refine lv_topi (fun z1 ez1 => ?_)
  obtain rfl : z1 = nI (i + 1) := ez1.trans (nI_add i 1)
  refine va_sld (A := fun q => s.heap.size ≤ q) (H0 := s.heap) hx hb hX hbl (Nat.not_le.mpr hbl) w.2.2.2.1 (by unfold vp_in; exact nI_in (c := i + 1) (N := L) (by omega) (by omega)) dL_law_808 ?_
  rw [nI_clamp (show i + 1 < 2 ^ 31 by omega)]
  have h := step_print 100 (xs (i + 1)) σ hR
  refine lc_call hx hb hml hown hts w (k := 0) rfl rfl (as := [aI (xs (i + 1))]) (rest := []) (inr_28 (List.mem_of_getElem? (i := 12) rfl)) (inr_1 (List.mem_of_getElem? (i := 2) rfl)) (inr_28 (List.mem_of_getElem? (i := 9) rfl)) (inr_28 (List.mem_of_getElem? (i := 10) rfl)) (inr_28 (List.mem_of_getElem? (i := 11) rfl)) hdl_X7_print ⟨Nat.le_of_ble_eq_true rfl, Nat.le_of_ble_eq_true rfl⟩ ⟨Nat.le_of_ble_eq_true rfl, Nat.le_of_ble_eq_true rfl⟩ hl.1 (Nat.le_of_ble_eq_true rfl) rfl dL_law_809 h (fun r0 σ1 H locs hq w => ?_)
  obtain ⟨y0, rfl, h⟩ := hq
  refine W.eq (g2 := F0 m 812 ls [.int y0]) rfl ?_
  refine lv_aload_n hx hb dL_law_812 rfl (lv_at hl 1 rfl) ?_
  refine lv_aload_n hx hb dL_law_813 rfl (lv_at hl 3 rfl) ?_
  refine lv_iload_n hx hb dL_law_814 rfl (lv_at hl 0 rfl) ?_
  refine lv_iconst (v := 1) hx hb dL_law_815 (by decide) ?_
  refine lv_iadd hx hb dL_law_816 ?_
  refine lv_topi (fun z2 ez2 => ?_)
  obtain rfl : z2 = nI (i + 1) := ez2.trans (nI_add i 1)
  refine va_sld (A := fun q => s.heap.size ≤ q) (H0 := s.heap) hx hb hX hbl (Nat.not_le.mpr hbl) w.2.2.2.1 (by unfold vp_in; exact nI_in (c := i + 1) (N := L) (by omega) (by omega)) dL_law_817 ?_
  rw [nI_clamp (show i + 1 < 2 ^ 31 by omega)]
  refine lc_call hx hb hml hown hts w (k := 132) rfl rfl (as := [aI (xs (i + 1))]) (rest := [.int y0]) (inr_31 (List.mem_of_getElem? (i := 0) rfl)) (inr_1 (List.mem_of_getElem? (i := 5) rfl)) (inr_30 (List.mem_of_getElem? (i := 21) rfl)) (inr_30 (List.mem_of_getElem? (i := 22) rfl)) (inr_30 (List.mem_of_getElem? (i := 23) rfl)) hdl_X8_print ⟨Nat.le_of_ble_eq_true rfl, Nat.le_of_ble_eq_true rfl⟩ ⟨Nat.le_of_ble_eq_true rfl, Nat.le_of_ble_eq_true rfl⟩ hl.1 (Nat.le_of_ble_eq_true rfl) rfl dL_law_818 h (fun r1 σ2 H locs hq w => ?_)
  obtain ⟨y1, rfl, h⟩ := hq
  refine W.eq (g2 := F0 m 821 ls [.int y1, .int y0]) rfl ?_
  exact lv_icmp_eq (tgt := 905) hx hb dL_law_821 (by decide) (fun _ => kk _ _ _ _ h.2 w hl) (fun q => absurd h.1 q)
theorem hdl_X7_up : yX7_up.cls ≠ "java/lang/invoke/MethodHandle" ∧ yX7_up.cls ≠ "java/lang/invoke/VarHandle" ∧ (parseMethodDescriptor yX7_up.desc).map (fun d => d.parameters.length) = some 2 := ⟨by decide, by decide, by decide +kernel⟩
theorem hdl_X8_up : yX8_up.cls ≠ "java/lang/invoke/MethodHandle" ∧ yX8_up.cls ≠ "java/lang/invoke/VarHandle" ∧ (parseMethodDescriptor yX8_up.desc).map (fun d => d.parameters.length) = some 2 := ⟨by decide, by decide, by decide +kernel⟩
set_option maxHeartbeats 4000000 in
set_option maxRecDepth 100000 in
theorem lk_22 {p : Program} {l : Launch} {e : Env} {s : State} {m : MethodId} {args : Array Value} {below : List Frame} {meth : Method} {c : Code} {Z : State → Prop} {D : va_G} {cy : Nat → ClassId} {ad : Nat → Nat} {b L i : Nat} {xs : Nat → Int32} (X : lk_X p s m args c b L xs) (hi : i + 6 ≤ L) (kk : lk_K p l e s m args below meth c Z D cy ad i 905 b) : lk_K p l e s m args below meth c Z D cy ad i 826 b := by
  intro σ H locs ls hR w hl
  obtain ⟨hx, hb, hml, hown, hts, hX, hbl, hL⟩ := id X
  refine lv_aload_n hx hb dL_law_826 rfl (lv_at hl 2 rfl) ?_
  refine lv_aload_n hx hb dL_law_827 rfl (lv_at hl 3 rfl) ?_
  refine lv_iload_n hx hb dL_law_828 rfl (lv_at hl 0 rfl) ?_
  refine lv_iconst (v := 1) hx hb dL_law_829 (by decide) ?_
  refine lv_iadd hx hb dL_law_830 ?_
  refine lv_topi (fun z1 ez1 => ?_)
  obtain rfl : z1 = nI (i + 1) := ez1.trans (nI_add i 1)
  refine va_sld (A := fun q => s.heap.size ≤ q) (H0 := s.heap) hx hb hX hbl (Nat.not_le.mpr hbl) w.2.2.2.1 (by unfold vp_in; exact nI_in (c := i + 1) (N := L) (by omega) (by omega)) dL_law_831 ?_
  rw [nI_clamp (show i + 1 < 2 ^ 31 by omega)]
  refine lv_aload_n hx hb dL_law_832 rfl (lv_at hl 3 rfl) ?_
  refine lv_iload_n hx hb dL_law_833 rfl (lv_at hl 0 rfl) ?_
  refine lv_iconst (v := 2) hx hb dL_law_834 (by decide) ?_
  refine lv_iadd hx hb dL_law_835 ?_
  refine lv_topi (fun z2 ez2 => ?_)
  obtain rfl : z2 = nI (i + 2) := ez2.trans (nI_add i 2)
  refine va_sld (A := fun q => s.heap.size ≤ q) (H0 := s.heap) hx hb hX hbl (Nat.not_le.mpr hbl) w.2.2.2.1 (by unfold vp_in; exact nI_in (c := i + 2) (N := L) (by omega) (by omega)) dL_law_836 ?_
  rw [nI_clamp (show i + 2 < 2 ^ 31 by omega)]
  have h := step_up 100 (xs (i + 1)) (xs (i + 2)) σ hR
  refine lc_call hx hb hml hown hts w (k := 0) rfl rfl (as := [aI (xs (i + 1)), aI (xs (i + 2))]) (rest := []) (inr_31 (List.mem_of_getElem? (i := 8) rfl)) (inr_1 (List.mem_of_getElem? (i := 2) rfl)) (inr_31 (List.mem_of_getElem? (i := 5) rfl)) (inr_31 (List.mem_of_getElem? (i := 6) rfl)) (inr_31 (List.mem_of_getElem? (i := 7) rfl)) hdl_X7_up ⟨Nat.le_of_ble_eq_true rfl, Nat.le_of_ble_eq_true rfl⟩ ⟨Nat.le_of_ble_eq_true rfl, Nat.le_of_ble_eq_true rfl⟩ hl.1 (Nat.le_of_ble_eq_true rfl) rfl dL_law_837 h (fun r0 σ1 H locs hq w => ?_)
  obtain ⟨y0, rfl, h⟩ := hq
  refine W.eq (g2 := F0 m 840 ls [.int y0]) rfl ?_
  refine lv_aload_n hx hb dL_law_840 rfl (lv_at hl 1 rfl) ?_
  refine lv_aload_n hx hb dL_law_841 rfl (lv_at hl 3 rfl) ?_
  refine lv_iload_n hx hb dL_law_842 rfl (lv_at hl 0 rfl) ?_
  refine lv_iconst (v := 1) hx hb dL_law_843 (by decide) ?_
  refine lv_iadd hx hb dL_law_844 ?_
  refine lv_topi (fun z3 ez3 => ?_)
  obtain rfl : z3 = nI (i + 1) := ez3.trans (nI_add i 1)
  refine va_sld (A := fun q => s.heap.size ≤ q) (H0 := s.heap) hx hb hX hbl (Nat.not_le.mpr hbl) w.2.2.2.1 (by unfold vp_in; exact nI_in (c := i + 1) (N := L) (by omega) (by omega)) dL_law_845 ?_
  rw [nI_clamp (show i + 1 < 2 ^ 31 by omega)]
  refine lv_aload_n hx hb dL_law_846 rfl (lv_at hl 3 rfl) ?_
  refine lv_iload_n hx hb dL_law_847 rfl (lv_at hl 0 rfl) ?_
  refine lv_iconst (v := 2) hx hb dL_law_848 (by decide) ?_
  refine lv_iadd hx hb dL_law_849 ?_
  refine lv_topi (fun z4 ez4 => ?_)
  obtain rfl : z4 = nI (i + 2) := ez4.trans (nI_add i 2)
  refine va_sld (A := fun q => s.heap.size ≤ q) (H0 := s.heap) hx hb hX hbl (Nat.not_le.mpr hbl) w.2.2.2.1 (by unfold vp_in; exact nI_in (c := i + 2) (N := L) (by omega) (by omega)) dL_law_850 ?_
  rw [nI_clamp (show i + 2 < 2 ^ 31 by omega)]
  refine lc_call hx hb hml hown hts w (k := 132) rfl rfl (as := [aI (xs (i + 1)), aI (xs (i + 2))]) (rest := [.int y0]) (inr_31 (List.mem_of_getElem? (i := 12) rfl)) (inr_1 (List.mem_of_getElem? (i := 5) rfl)) (inr_31 (List.mem_of_getElem? (i := 9) rfl)) (inr_31 (List.mem_of_getElem? (i := 10) rfl)) (inr_31 (List.mem_of_getElem? (i := 11) rfl)) hdl_X8_up ⟨Nat.le_of_ble_eq_true rfl, Nat.le_of_ble_eq_true rfl⟩ ⟨Nat.le_of_ble_eq_true rfl, Nat.le_of_ble_eq_true rfl⟩ hl.1 (Nat.le_of_ble_eq_true rfl) rfl dL_law_851 h (fun r1 σ2 H locs hq w => ?_)
  obtain ⟨y1, rfl, h⟩ := hq
  refine W.eq (g2 := F0 m 854 ls [.int y1, .int y0]) rfl ?_
  exact lv_icmp_eq (tgt := 905) hx hb dL_law_854 (by decide) (fun _ => kk _ _ _ _ h.2 w hl) (fun q => absurd h.1 q)
theorem hdl_X7_things : yX7_things.cls ≠ "java/lang/invoke/MethodHandle" ∧ yX7_things.cls ≠ "java/lang/invoke/VarHandle" ∧ (parseMethodDescriptor yX7_things.desc).map (fun d => d.parameters.length) = some 0 := ⟨by decide, by decide, by decide +kernel⟩
theorem hdl_X8_things : yX8_things.cls ≠ "java/lang/invoke/MethodHandle" ∧ yX8_things.cls ≠ "java/lang/invoke/VarHandle" ∧ (parseMethodDescriptor yX8_things.desc).map (fun d => d.parameters.length) = some 0 := ⟨by decide, by decide, by decide +kernel⟩
set_option maxHeartbeats 4000000 in
set_option maxRecDepth 100000 in
theorem lk_23 {p : Program} {l : Launch} {e : Env} {s : State} {m : MethodId} {args : Array Value} {below : List Frame} {meth : Method} {c : Code} {Z : State → Prop} {D : va_G} {cy : Nat → ClassId} {ad : Nat → Nat} {b L i : Nat} {xs : Nat → Int32} (X : lk_X p s m args c b L xs) (hi : i + 6 ≤ L) (kk : lk_K p l e s m args below meth c Z D cy ad i 905 b) : lk_K p l e s m args below meth c Z D cy ad i 859 b := by
  intro σ H locs ls hR w hl
  obtain ⟨hx, hb, hml, hown, hts, hX, hbl, hL⟩ := id X
  refine lv_aload_n hx hb dL_law_859 rfl (lv_at hl 2 rfl) ?_
  have h := step_things 100  σ hR
  refine lc_call hx hb hml hown hts w (k := 0) rfl rfl (as := []) (rest := []) (inr_31 (List.mem_of_getElem? (i := 16) rfl)) (inr_1 (List.mem_of_getElem? (i := 2) rfl)) (inr_31 (List.mem_of_getElem? (i := 13) rfl)) (inr_31 (List.mem_of_getElem? (i := 14) rfl)) (inr_31 (List.mem_of_getElem? (i := 15) rfl)) hdl_X7_things ⟨Nat.le_of_ble_eq_true rfl, Nat.le_of_ble_eq_true rfl⟩ ⟨Nat.le_of_ble_eq_true rfl, Nat.le_of_ble_eq_true rfl⟩ hl.1 (Nat.le_of_ble_eq_true rfl) rfl dL_law_860 h (fun r0 σ1 H locs hq w => ?_)
  obtain ⟨y0, rfl, h⟩ := hq
  refine W.eq (g2 := F0 m 863 ls [.int y0]) rfl ?_
  refine lv_aload_n hx hb dL_law_863 rfl (lv_at hl 1 rfl) ?_
  refine lc_call hx hb hml hown hts w (k := 132) rfl rfl (as := []) (rest := [.int y0]) (inr_31 (List.mem_of_getElem? (i := 21) rfl)) (inr_1 (List.mem_of_getElem? (i := 5) rfl)) (inr_31 (List.mem_of_getElem? (i := 18) rfl)) (inr_31 (List.mem_of_getElem? (i := 19) rfl)) (inr_31 (List.mem_of_getElem? (i := 20) rfl)) hdl_X8_things ⟨Nat.le_of_ble_eq_true rfl, Nat.le_of_ble_eq_true rfl⟩ ⟨Nat.le_of_ble_eq_true rfl, Nat.le_of_ble_eq_true rfl⟩ hl.1 (Nat.le_of_ble_eq_true rfl) rfl dL_law_864 h (fun r1 σ2 H locs hq w => ?_)
  obtain ⟨y1, rfl, h⟩ := hq
  refine W.eq (g2 := F0 m 867 ls [.int y1, .int y0]) rfl ?_
  exact lv_icmp_eq (tgt := 905) hx hb dL_law_867 (by decide) (fun _ => kk _ _ _ _ h.2 w hl) (fun q => absurd h.1 q)
theorem hdl_X7_thing : yX7_thing.cls ≠ "java/lang/invoke/MethodHandle" ∧ yX7_thing.cls ≠ "java/lang/invoke/VarHandle" ∧ (parseMethodDescriptor yX7_thing.desc).map (fun d => d.parameters.length) = some 2 := ⟨by decide, by decide, by decide +kernel⟩
theorem hdl_X8_thing : yX8_thing.cls ≠ "java/lang/invoke/MethodHandle" ∧ yX8_thing.cls ≠ "java/lang/invoke/VarHandle" ∧ (parseMethodDescriptor yX8_thing.desc).map (fun d => d.parameters.length) = some 2 := ⟨by decide, by decide, by decide +kernel⟩
set_option maxHeartbeats 4000000 in
set_option maxRecDepth 100000 in
theorem lk_24 {p : Program} {l : Launch} {e : Env} {s : State} {m : MethodId} {args : Array Value} {below : List Frame} {meth : Method} {c : Code} {Z : State → Prop} {D : va_G} {cy : Nat → ClassId} {ad : Nat → Nat} {b L i : Nat} {xs : Nat → Int32} (X : lk_X p s m args c b L xs) (hi : i + 6 ≤ L) (kk : lk_K p l e s m args below meth c Z D cy ad i 905 b) : lk_K p l e s m args below meth c Z D cy ad i 872 b := by
  intro σ H locs ls hR w hl
  obtain ⟨hx, hb, hml, hown, hts, hX, hbl, hL⟩ := id X
  refine lv_aload_n hx hb dL_law_872 rfl (lv_at hl 2 rfl) ?_
  refine lv_aload_n hx hb dL_law_873 rfl (lv_at hl 3 rfl) ?_
  refine lv_iload_n hx hb dL_law_874 rfl (lv_at hl 0 rfl) ?_
  refine lv_iconst (v := 1) hx hb dL_law_875 (by decide) ?_
  refine lv_iadd hx hb dL_law_876 ?_
  refine lv_topi (fun z1 ez1 => ?_)
  obtain rfl : z1 = nI (i + 1) := ez1.trans (nI_add i 1)
  refine va_sld (A := fun q => s.heap.size ≤ q) (H0 := s.heap) hx hb hX hbl (Nat.not_le.mpr hbl) w.2.2.2.1 (by unfold vp_in; exact nI_in (c := i + 1) (N := L) (by omega) (by omega)) dL_law_877 ?_
  rw [nI_clamp (show i + 1 < 2 ^ 31 by omega)]
  refine lv_aload_n hx hb dL_law_878 rfl (lv_at hl 3 rfl) ?_
  refine lv_iload_n hx hb dL_law_879 rfl (lv_at hl 0 rfl) ?_
  refine lv_iconst (v := 2) hx hb dL_law_880 (by decide) ?_
  refine lv_iadd hx hb dL_law_881 ?_
  refine lv_topi (fun z2 ez2 => ?_)
  obtain rfl : z2 = nI (i + 2) := ez2.trans (nI_add i 2)
  refine va_sld (A := fun q => s.heap.size ≤ q) (H0 := s.heap) hx hb hX hbl (Nat.not_le.mpr hbl) w.2.2.2.1 (by unfold vp_in; exact nI_in (c := i + 2) (N := L) (by omega) (by omega)) dL_law_882 ?_
  rw [nI_clamp (show i + 2 < 2 ^ 31 by omega)]
  have h := step_thing 100 (xs (i + 1)) (xs (i + 2)) σ hR
  refine lc_call hx hb hml hown hts w (k := 0) rfl rfl (as := [aI (xs (i + 1)), aI (xs (i + 2))]) (rest := []) (inr_32 (List.mem_of_getElem? (i := 6) rfl)) (inr_1 (List.mem_of_getElem? (i := 2) rfl)) (inr_32 (List.mem_of_getElem? (i := 3) rfl)) (inr_32 (List.mem_of_getElem? (i := 4) rfl)) (inr_32 (List.mem_of_getElem? (i := 5) rfl)) hdl_X7_thing ⟨Nat.le_of_ble_eq_true rfl, Nat.le_of_ble_eq_true rfl⟩ ⟨Nat.le_of_ble_eq_true rfl, Nat.le_of_ble_eq_true rfl⟩ hl.1 (Nat.le_of_ble_eq_true rfl) rfl dL_law_883 h (fun r0 σ1 H locs hq w => ?_)
  obtain ⟨y0, rfl, h⟩ := hq
  refine W.eq (g2 := F0 m 886 ls [.int y0]) rfl ?_
  refine lv_aload_n hx hb dL_law_886 rfl (lv_at hl 1 rfl) ?_
  refine lv_aload_n hx hb dL_law_887 rfl (lv_at hl 3 rfl) ?_
  refine lv_iload_n hx hb dL_law_888 rfl (lv_at hl 0 rfl) ?_
  refine lv_iconst (v := 1) hx hb dL_law_889 (by decide) ?_
  refine lv_iadd hx hb dL_law_890 ?_
  refine lv_topi (fun z3 ez3 => ?_)
  obtain rfl : z3 = nI (i + 1) := ez3.trans (nI_add i 1)
  refine va_sld (A := fun q => s.heap.size ≤ q) (H0 := s.heap) hx hb hX hbl (Nat.not_le.mpr hbl) w.2.2.2.1 (by unfold vp_in; exact nI_in (c := i + 1) (N := L) (by omega) (by omega)) dL_law_891 ?_
  rw [nI_clamp (show i + 1 < 2 ^ 31 by omega)]
  refine lv_aload_n hx hb dL_law_892 rfl (lv_at hl 3 rfl) ?_
  refine lv_iload_n hx hb dL_law_893 rfl (lv_at hl 0 rfl) ?_
  refine lv_iconst (v := 2) hx hb dL_law_894 (by decide) ?_
  refine lv_iadd hx hb dL_law_895 ?_
  refine lv_topi (fun z4 ez4 => ?_)
  obtain rfl : z4 = nI (i + 2) := ez4.trans (nI_add i 2)
  refine va_sld (A := fun q => s.heap.size ≤ q) (H0 := s.heap) hx hb hX hbl (Nat.not_le.mpr hbl) w.2.2.2.1 (by unfold vp_in; exact nI_in (c := i + 2) (N := L) (by omega) (by omega)) dL_law_896 ?_
  rw [nI_clamp (show i + 2 < 2 ^ 31 by omega)]
  refine lc_call hx hb hml hown hts w (k := 132) rfl rfl (as := [aI (xs (i + 1)), aI (xs (i + 2))]) (rest := [.int y0]) (inr_32 (List.mem_of_getElem? (i := 11) rfl)) (inr_1 (List.mem_of_getElem? (i := 5) rfl)) (inr_32 (List.mem_of_getElem? (i := 8) rfl)) (inr_32 (List.mem_of_getElem? (i := 9) rfl)) (inr_32 (List.mem_of_getElem? (i := 10) rfl)) hdl_X8_thing ⟨Nat.le_of_ble_eq_true rfl, Nat.le_of_ble_eq_true rfl⟩ ⟨Nat.le_of_ble_eq_true rfl, Nat.le_of_ble_eq_true rfl⟩ hl.1 (Nat.le_of_ble_eq_true rfl) rfl dL_law_897 h (fun r1 σ2 H locs hq w => ?_)
  obtain ⟨y1, rfl, h⟩ := hq
  refine W.eq (g2 := F0 m 900 ls [.int y1, .int y0]) rfl ?_
  exact lv_icmp_eq (tgt := 905) hx hb dL_law_900 (by decide) (fun _ => kk _ _ _ _ h.2 w hl) (fun q => absurd h.1 q)
