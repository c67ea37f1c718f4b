/-! the loop -/
set_option maxHeartbeats 4000000 in
set_option maxRecDepth 100000 in
theorem lk_sw {p : Program} {l : Launch} {e : Env} {s : State} {m : MethodId} {args : Array Value} {below : List Frame} {meth : Method} {c : Code} {Z : State → Prop} {D : va_G} {cy : Nat → ClassId} {ad : Nat → Nat} {b L i : Nat} {xs : Nat → Int32} (X : lk_X p s m args c b L xs) (hi : i + 6 ≤ L) (kk : lk_K p l e s m args below meth c Z D cy ad i 905 b) : lk_K p l e s m args below meth c Z D cy ad i 27 b := by
  intro σ H locs ls hR w hl
  obtain ⟨hx, hb, hml, hown, hts, hX, hbl, hL⟩ := id X
  refine lv_aload_n hx hb dL_law_27 rfl (lv_at hl 3 rfl) ?_
  refine lv_iload_n hx hb dL_law_28 rfl (lv_at hl 0 rfl) ?_
  refine va_sld (A := fun q => s.heap.size ≤ q) (H0 := s.heap) hx hb hX hbl (Nat.not_le.mpr hbl) w.2.2.2.1 (by unfold vp_in; exact nI_in (c := i) (N := L) (by omega) (by omega)) dL_law_29 ?_
  refine lv_bipush (v := 31) hx hb dL_law_30 (by decide) ?_
  refine lv_iand hx hb dL_law_32 ?_
  refine lv_topi (fun z ez => ?_)
  by_cases c0 : z = 0
  · refine lv_tableIn (off := 115) (tgt := 148) hx hb dL_law_33 (by rw [c0]; decide) (by rw [c0]; decide) (by rw [c0]; rfl) (by decide) ?_
    exact lk_0 X hi kk σ H locs ls hR w hl
  by_cases c1 : z = 1
  · refine lv_tableIn (off := 148) (tgt := 181) hx hb dL_law_33 (by rw [c1]; decide) (by rw [c1]; decide) (by rw [c1]; rfl) (by decide) ?_
    exact lk_1 X hi kk σ H locs ls hR w hl
  by_cases c2 : z = 2
  · refine lv_tableIn (off := 171) (tgt := 204) hx hb dL_law_33 (by rw [c2]; decide) (by rw [c2]; decide) (by rw [c2]; rfl) (by decide) ?_
    exact lk_2 X hi kk σ H locs ls hR w hl
  by_cases c3 : z = 3
  · refine lv_tableIn (off := 234) (tgt := 267) hx hb dL_law_33 (by rw [c3]; decide) (by rw [c3]; decide) (by rw [c3]; rfl) (by decide) ?_
    exact lk_3 X hi kk σ H locs ls hR w hl
  by_cases c4 : z = 4
  · refine lv_tableIn (off := 277) (tgt := 310) hx hb dL_law_33 (by rw [c4]; decide) (by rw [c4]; decide) (by rw [c4]; rfl) (by decide) ?_
    exact lk_4 X hi kk σ H locs ls hR w hl
  by_cases c5 : z = 5
  · refine lv_tableIn (off := 290) (tgt := 323) hx hb dL_law_33 (by rw [c5]; decide) (by rw [c5]; decide) (by rw [c5]; rfl) (by decide) ?_
    exact lk_5 X hi kk σ H locs ls hR w hl
  by_cases c6 : z = 6
  · refine lv_tableIn (off := 313) (tgt := 346) hx hb dL_law_33 (by rw [c6]; decide) (by rw [c6]; decide) (by rw [c6]; rfl) (by decide) ?_
    exact lk_6 X hi kk σ H locs ls hR w hl
  by_cases c7 : z = 7
  · refine lv_tableIn (off := 372) (tgt := 405) hx hb dL_law_33 (by rw [c7]; decide) (by rw [c7]; decide) (by rw [c7]; rfl) (by decide) ?_
    exact lk_7 X hi kk σ H locs ls hR w hl
  by_cases c8 : z = 8
  · refine lv_tableIn (off := 431) (tgt := 464) hx hb dL_law_33 (by rw [c8]; decide) (by rw [c8]; decide) (by rw [c8]; rfl) (by decide) ?_
    exact lk_8 X hi kk σ H locs ls hR w hl
  by_cases c9 : z = 9
  · refine lv_tableIn (off := 464) (tgt := 497) hx hb dL_law_33 (by rw [c9]; decide) (by rw [c9]; decide) (by rw [c9]; rfl) (by decide) ?_
    exact lk_9 X hi kk σ H locs ls hR w hl
  by_cases c10 : z = 10
  · refine lv_tableIn (off := 487) (tgt := 520) hx hb dL_law_33 (by rw [c10]; decide) (by rw [c10]; decide) (by rw [c10]; rfl) (by decide) ?_
    exact lk_10 X hi kk σ H locs ls hR w hl
  by_cases c11 : z = 11
  · refine lv_tableIn (off := 520) (tgt := 553) hx hb dL_law_33 (by rw [c11]; decide) (by rw [c11]; decide) (by rw [c11]; rfl) (by decide) ?_
    exact lk_11 X hi kk σ H locs ls hR w hl
  by_cases c12 : z = 12
  · refine lv_tableIn (off := 563) (tgt := 596) hx hb dL_law_33 (by rw [c12]; decide) (by rw [c12]; decide) (by rw [c12]; rfl) (by decide) ?_
    exact lk_12 X hi kk σ H locs ls hR w hl
  by_cases c13 : z = 13
  · refine lv_tableIn (off := 596) (tgt := 629) hx hb dL_law_33 (by rw [c13]; decide) (by rw [c13]; decide) (by rw [c13]; rfl) (by decide) ?_
    exact lk_13 X hi kk σ H locs ls hR w hl
  by_cases c14 : z = 14
  · refine lv_tableIn (off := 639) (tgt := 672) hx hb dL_law_33 (by rw [c14]; decide) (by rw [c14]; decide) (by rw [c14]; rfl) (by decide) ?_
    exact lk_14 X hi kk σ H locs ls hR w hl
  by_cases c15 : z = 15
  · refine lv_tableIn (off := 672) (tgt := 705) hx hb dL_law_33 (by rw [c15]; decide) (by rw [c15]; decide) (by rw [c15]; rfl) (by decide) ?_
    exact lk_15 X hi kk σ H locs ls hR w hl
  by_cases c16 : z = 16
  · refine lv_tableIn (off := 685) (tgt := 718) hx hb dL_law_33 (by rw [c16]; decide) (by rw [c16]; decide) (by rw [c16]; rfl) (by decide) ?_
    exact lk_16 X hi kk σ H locs ls hR w hl
  by_cases c17 : z = 17
  · refine lv_tableIn (off := 698) (tgt := 731) hx hb dL_law_33 (by rw [c17]; decide) (by rw [c17]; decide) (by rw [c17]; rfl) (by decide) ?_
    exact lk_17 X hi kk σ H locs ls hR w hl
  by_cases c18 : z = 18
  · refine lv_tableIn (off := 711) (tgt := 744) hx hb dL_law_33 (by rw [c18]; decide) (by rw [c18]; decide) (by rw [c18]; rfl) (by decide) ?_
    exact lk_18 X hi kk σ H locs ls hR w hl
  by_cases c19 : z = 19
  · refine lv_tableIn (off := 734) (tgt := 767) hx hb dL_law_33 (by rw [c19]; decide) (by rw [c19]; decide) (by rw [c19]; rfl) (by decide) ?_
    exact lk_19 X hi kk σ H locs ls hR w hl
  by_cases c20 : z = 20
  · refine lv_tableIn (off := 757) (tgt := 790) hx hb dL_law_33 (by rw [c20]; decide) (by rw [c20]; decide) (by rw [c20]; rfl) (by decide) ?_
    exact lk_20 X hi kk σ H locs ls hR w hl
  by_cases c21 : z = 21
  · refine lv_tableIn (off := 770) (tgt := 803) hx hb dL_law_33 (by rw [c21]; decide) (by rw [c21]; decide) (by rw [c21]; rfl) (by decide) ?_
    exact lk_21 X hi kk σ H locs ls hR w hl
  by_cases c22 : z = 22
  · refine lv_tableIn (off := 793) (tgt := 826) hx hb dL_law_33 (by rw [c22]; decide) (by rw [c22]; decide) (by rw [c22]; rfl) (by decide) ?_
    exact lk_22 X hi kk σ H locs ls hR w hl
  by_cases c23 : z = 23
  · refine lv_tableIn (off := 826) (tgt := 859) hx hb dL_law_33 (by rw [c23]; decide) (by rw [c23]; decide) (by rw [c23]; rfl) (by decide) ?_
    exact lk_23 X hi kk σ H locs ls hR w hl
  by_cases c24 : z = 24
  · refine lv_tableIn (off := 839) (tgt := 872) hx hb dL_law_33 (by rw [c24]; decide) (by rw [c24]; decide) (by rw [c24]; rfl) (by decide) ?_
    exact lk_24 X hi kk σ H locs ls hR w hl
  refine lv_tableOut (tgt := 905) hx hb dL_law_33 (by have := lv_neT c0 (a := 0) rfl; have := lv_neT c1 (a := 1) rfl; have := lv_neT c2 (a := 2) rfl; have := lv_neT c3 (a := 3) rfl; have := lv_neT c4 (a := 4) rfl; have := lv_neT c5 (a := 5) rfl; have := lv_neT c6 (a := 6) rfl; have := lv_neT c7 (a := 7) rfl; have := lv_neT c8 (a := 8) rfl; have := lv_neT c9 (a := 9) rfl; have := lv_neT c10 (a := 10) rfl; have := lv_neT c11 (a := 11) rfl; have := lv_neT c12 (a := 12) rfl; have := lv_neT c13 (a := 13) rfl; have := lv_neT c14 (a := 14) rfl; have := lv_neT c15 (a := 15) rfl; have := lv_neT c16 (a := 16) rfl; have := lv_neT c17 (a := 17) rfl; have := lv_neT c18 (a := 18) rfl; have := lv_neT c19 (a := 19) rfl; have := lv_neT c20 (a := 20) rfl; have := lv_neT c21 (a := 21) rfl; have := lv_neT c22 (a := 22) rfl; have := lv_neT c23 (a := 23) rfl; have := lv_neT c24 (a := 24) rfl; omega) (by decide) ?_
  exact kk σ H locs ls hR w hl
set_option maxHeartbeats 4000000 in
set_option maxRecDepth 100000 in
theorem lk_loop {p : Program} {l : Launch} {e : Env} {s : State} {m : MethodId} {args : Array Value} {below : List Frame} {meth : Method} {c : Code} {Z : State → Prop} {D : va_G} {cy : Nat → ClassId} {ad : Nat → Nat} {b L : Nat} {xs : Nat → Int32} (X : lk_X p s m args c b L xs) (kx : ∀ i, i ≤ L → lk_K p l e s m args below meth c Z D cy ad i 911 b) : ∀ n i, i ≤ L → L < i + n → lk_K p l e s m args below meth c Z D cy ad i 18 b := by
  intro n
  induction n with
  | zero => intro i h1 h2; omega
  | succ n ih =>
    intro i hiL hn σ H locs ls hR w hl
    obtain ⟨hx, hb, hml, hown, hts, hX, hbl, hL⟩ := id X
    refine lv_iload_n hx hb dL_law_18 rfl (lv_at hl 0 rfl) ?_
    refine lv_aload_n hx hb dL_law_19 rfl (lv_at hl 3 rfl) ?_
    refine va_slen (A := fun q => s.heap.size ≤ q) (H0 := s.heap) hx hb hX hbl (Nat.not_le.mpr hbl) w.2.2.2.1 dL_law_20 ?_
    refine lv_bipush (v := 6) hx hb dL_law_21 (by decide) ?_
    refine lv_isub hx hb dL_law_23 ?_
    refine lv_topi (fun z ez => ?_)
    have ez : z = iI ((L : Int) - 6) := by
      rw [ez, show Int32.ofNat L = iI L from nI_iI L]
      exact iI_sub L 6
    refine lv_icmp_gt (tgt := 911) hx hb dL_law_24 (by decide) (fun _ => kx i hiL σ H locs ls hR w hl) (fun c0 => ?_)
    have hi : i + 6 ≤ L := by
      rw [ez, nI_iI, iI_lt (by omega) (by omega) (by omega) (by omega)] at c0
      omega
    refine lk_sw X hi ?_ σ H locs ls hR w hl
    intro σ H locs ls hR w hl
    refine lv_iinc (v := nI (i + 6)) (lv' := [(3, .int (nI (i + 6))), (2, .ref (ad 132)), (1, .ref (ad 0)), (0, .ref b)]) hx hb dL_law_905 hl (k := 0) rfl (nI_add i 6) (by decide) rfl (fun ls hl => ?_)
    refine lv_goto (tgt := 18) hx hb dL_law_908 (by decide) ?_
    exact ih (i + 6) hi (by omega) σ H locs ls hR w hl
