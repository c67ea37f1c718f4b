/-! a shape drawn: its pins are the document's -/
def mco (a : Ab) (σ : tk_S) (i : Nat) : Prop := σ.1 135 i = nI (aKi a i) ∧ σ.1 137 i = nI (aNc a i) ∧ ∀ k, k < aNc a i → σ.1 138 (8 * i + k) = nI (aX a i k) ∧ σ.1 139 (8 * i + k) = nI (aY a i k)
theorem mco.fr {a : Ab} {σ σ1 : tk_S} {i : Nat} (h : mco a σ i) (f : Fr (frP i) σ σ1) : mco a σ1 i := by
  have e : ∀ k j, k ≠ 140 → σ1.1 k j = σ.1 k j := fun k j hk => f k j (fun q => hk q.1)
  refine ⟨by rw [e _ _ (by omega)]; exact h.1, by rw [e _ _ (by omega)]; exact h.2.1, fun k hk => ?_⟩
  rw [e _ _ (by omega), e _ _ (by omega)]
  exact h.2.2 k hk
/-- the pins of the first steps of a line -/
def lnS (a : Ab) (i m : Nat) : Nat → Nat → Prop := fun x y => (x = aX a i 0 ∧ y = aY a i 0) ∨ ∃ k t : Nat, k < m ∧ 0 < stN a i k ∧ t ≤ stN a i k ∧ (x : Int) = stX a i k t ∧ (y : Int) = stY a i k t
theorem lnS_suc (a : Ab) (i m x y : Nat) : stS (lnS a i m) (aX a i m) (aY a i m) ((aX a i (m + 1) : Int) - aX a i m) ((aY a i (m + 1) : Int) - aY a i m) (stN a i m) (if 0 < stN a i m then stN a i m + 1 else 0) x y ↔ lnS a i (m + 1) x y := by
  constructor
  · rintro ((q | ⟨k, t, h1, h2⟩) | ⟨t, h1, h2, h3⟩)
    · exact Or.inl q
    · exact Or.inr ⟨k, t, by omega, h2⟩
    · by_cases h0 : 0 < stN a i m
      · rw [if_pos h0] at h1
        exact Or.inr ⟨m, t, by omega, h0, by omega, h2, h3⟩
      · rw [if_neg h0] at h1; omega
  · rintro (q | ⟨k, t, h1, h2, h3, h4, h5⟩)
    · exact Or.inl (Or.inl q)
    · by_cases e : k = m
      · subst e
        exact Or.inr ⟨t, by rw [if_pos h2]; omega, h4, h5⟩
      · exact Or.inl (Or.inr ⟨k, t, by omega, h2, h3, h4, h5⟩)
theorem e8 (i : Nat) : 8 * nI i = nI (8 * i) := by show nI 8 * nI i = _; rw [pk_mul]
theorem ix576b (i j : Nat) : (576 * nI i) + nI j = nI (576 * i + j) := by show nI 576 * nI i + nI j = _; rw [pk_mul, nI_add]
set_option maxHeartbeats 2000000 in
theorem s_X8_draws (d i : Nat) (hi : i < 12) (a : Ab) (hW : WFs a i) (σ : tk_S) (hC : mco a σ i) (Q : tk_S → Prop) (h : ∀ σ', Fr (frP i) σ σ' → σ'.2 = σ.2 → mpin σ' i (pinP a i) → Q σ') : p_X8_draws (d + 4) [aN 132, aI (nI i)] σ Q := by
  obtain ⟨w0, w1, w2, w3, w4, w5, w6, w7⟩ := hW
  refine e_X8_draws (d + 4) _ (b_X8_draws_0 (d + 3) _ σ Q ?_)
  have L := up_loop (fun j => ∀ σ1, Fr (frP i) σ σ1 → σ1.2 = σ.2 → (∀ j', j' < j → σ1.1 140 (576 * i + j') = 0) → g_X8_draws (d + 4) 2 [(0, aN 132), (1, aI (nI i)), (2, aI (nI j))] σ1 Q) 576 ?_ ?_
  · exact L σ (Fr.rf σ) rfl (fun j' q => absurd q (Nat.not_lt_zero j'))
  · intro σ1 f1 g1 z1
    have m0 : mpin σ1 i (fun _ _ => False) := fun x y hx hy => by
      rw [pB_f.mpr (fun q => q), show 576 * i + 24 * y + x = 576 * i + (24 * y + x) by omega]
      exact z1 (24 * y + x) (by omega)
    have c1 := hC.fr f1
    have x0 := w5 0 (by omega)
    have cx := c1.2.2 0 (by omega)
    rw [Nat.add_zero] at cx
    refine b_X8_draws_2 (d + 3) _ _ σ1 Q ⟨fun _ z2 e2 => ?_, fun c => absurd (by decide) c⟩
    rw [e8] at e2
    subst e2
    rw [nI_clamp (n := i) (by omega), nI_clamp (n := 8 * i) (by omega), c1.1]
    refine ⟨vp_in_nI hi (by omega), fun ck => ⟨vp_in_nI hi (by omega), fun cg => ?_, fun cg => ?_⟩, fun ck => ?_⟩
    · have hk0 : aKi a i = 0 := by
        have n2 : aKi a i ≠ 2 := fun q => ck (by rw [q]; rfl)
        have n1 : aKi a i ≠ 1 := fun q => cg (by rw [q]; rfl)
        omega
      refine ⟨vp_in_nI (by omega) (by omega), vp_in_nI (by omega) (by omega), ?_⟩
      rw [cx.1, cx.2, nI_iI (aX a i 0), nI_iI (aY a i 0)]
      refine s_X8_puts (d + 1) i hi (by omega) (by omega) (by omega) (by omega) σ1 _ m0 _ (fun σ2 f2 g2 m2 => ?_)
      have f2 := f1.tr f2
      have m2 : mpin σ2 i (lnS a i 0) := m2.c (fun x y _ _ => ⟨fun q => by
        rcases q with q | q
        · exact q.elim
        · exact Or.inl ⟨by omega, by omega⟩, fun q => by
        rcases q with q | ⟨k, t, q, _⟩
        · exact Or.inr ⟨by omega, by omega⟩
        · exact absurd q (Nat.not_lt_zero k)⟩)
      have L2 := up_loop (fun k => ∀ σ3, Fr (frP i) σ σ3 → σ3.2 = σ.2 → mpin σ3 i (lnS a i k) → g_X8_draws (d + 4) 231 [(0, aN 132), (1, aI (nI i)), (2, aI (nI (8 * i))), (3, aI (nI k))] σ3 Q) (aNc a i - 1) ?_ ?_
      · exact L2 σ2 f2 (g2.trans g1) m2
      · intro σ3 f3 g3 m3
        have c3 := hC.fr f3
        refine b_X8_draws_231 (d + 3) _ _ _ σ3 Q ?_
        rw [nI_clamp (n := i) (by omega), c3.2.1, nI_1, show aNc a i - 1 + 1 = aNc a i by omega]
        refine ⟨vp_in_nI hi (by omega), fun _ => h σ3 f3 g3 (m3.c (fun x y hx hy => ?_)), fun c => absurd ((le_nI (by omega) (by omega)).mpr (Nat.le_refl _)) c⟩
        constructor
        · rintro (q | ⟨k, t, q1, q2⟩)
          · exact ⟨hx, hy, Or.inl ⟨hk0, Or.inl q⟩⟩
          · exact ⟨hx, hy, Or.inl ⟨hk0, Or.inr ⟨k, t, by omega, q2⟩⟩⟩
        · rintro ⟨_, _, (⟨_, (q | ⟨k, t, q1, q2⟩)⟩ | ⟨q, _⟩ | ⟨q, _⟩)⟩
          · exact Or.inl q
          · exact Or.inr ⟨k, t, by omega, q2⟩
          · omega
          · omega
      · intro k hk ih σ3 f3 g3 m3
        have c3 := hC.fr f3
        have p0 := c3.2.2 k (by omega)
        have p1 := c3.2.2 (k + 1) (by omega)
        have q0 := w5 k (by omega)
        have q1 := w5 (k + 1) (by omega)
        refine b_X8_draws_231 (d + 3) _ _ _ σ3 Q ?_
        rw [nI_add, nI_1, nI_1, nI_clamp (n := i) (by omega), nI_clamp (n := 8 * i + k) (by omega), nI_clamp (n := 8 * i + k + 1) (by omega), c3.2.1]
        refine ⟨vp_in_nI hi (by omega), fun c => absurd ((le_nI (by omega) (by omega)).mp c) (by omega), fun _ => ⟨vp_in_nI (by omega) (by omega), vp_in_nI (by omega) (by omega), vp_in_nI (by omega) (by omega), vp_in_nI (by omega) (by omega), vp_in_nI (by omega) (by omega), vp_in_nI (by omega) (by omega), ?_⟩⟩
        rw [show 8 * i + k + 1 = 8 * i + (k + 1) by omega, p0.1, p0.2, p1.1, p1.2, nI_iI (aX a i k), nI_iI (aY a i k), nI_iI (aX a i (k + 1)), nI_iI (aY a i (k + 1)), iI_sub, iI_sub]
        refine s_X8_steps d i hi (by omega) (by omega) (by omega) (by omega) σ3 _ m3 _ (stN a i k) rfl (fun σ4 f4 g4 m4 => ih σ4 (f3.tr f4) (g4.trans g3) ?_)
        exact m4.c (fun x y _ _ => lnS_suc a i k x y)
    · have hk1 : aKi a i = 1 := (nI_eq (b := 1) (by omega) (by omega)).mp cg
      obtain ⟨v1, v2, v3⟩ := w6 hk1
      have x1 := w5 1 (by omega)
      refine ⟨vp_in_nI (by omega) (by omega), fun z12 e12 => ?_⟩
      rw [cx.2] at e12
      subst e12
      have L2 := up_from (fun py => ∀ σ3, Fr (frP i) σ σ3 → σ3.2 = σ.2 → mpin σ3 i (fun x y => aX a i 0 ≤ x ∧ x ≤ aX a i 1 ∧ aY a i 0 ≤ y ∧ y < py) → g_X8_draws (d + 4) 156 [(0, aN 132), (1, aI (nI i)), (2, aI (nI (8 * i))), (3, aI (nI py))] σ3 Q) (aY a i 1 + 1) (aY a i 0) (by omega) ?_ ?_
      · exact L2 σ1 f1 g1 (m0.c (fun x y _ _ => ⟨fun q => q.elim, fun q => by omega⟩))
      · intro σ3 f3 g3 m3
        have p1 := (hC.fr f3).2.2 1 (by omega)
        refine b_X8_draws_156 (d + 3) _ _ _ σ3 Q ?_
        rw [nI_1, nI_clamp (n := 8 * i + 1) (by omega), p1.2]
        refine ⟨vp_in_nI (by omega) (by omega), fun _ => h σ3 f3 g3 (m3.c (fun x y hx hy => ⟨fun q => ⟨hx, hy, Or.inr (Or.inl ⟨hk1, q.1, q.2.1, q.2.2.1, by omega⟩)⟩, ?_⟩)), fun c => absurd ((lt_nI (by omega) (by omega)).mpr (by omega)) c⟩
        rintro ⟨_, _, (⟨q, _⟩ | ⟨_, q1, q2, q3, q4⟩ | ⟨q, _⟩)⟩
        · omega
        · exact ⟨q1, q2, q3, by omega⟩
        · omega
      · intro py hpy0 hpy ih σ3 f3 g3 m3
        have p0 := (hC.fr f3).2.2 0 (by omega)
        have p1 := (hC.fr f3).2.2 1 (by omega)
        rw [Nat.add_zero] at p0
        refine b_X8_draws_156 (d + 3) _ _ _ σ3 Q ?_
        rw [nI_1, nI_clamp (n := 8 * i + 1) (by omega), p1.2]
        refine ⟨vp_in_nI (by omega) (by omega), fun c => absurd ((lt_nI (by omega) (by omega)).mp c) (by omega), fun _ => ⟨vp_in_nI (by omega) (by omega), fun z4 e4 => ?_⟩⟩
        rw [nI_clamp (n := 8 * i) (by omega), p0.1] at e4
        subst e4
        have L3 := up_from (fun px => ∀ σ4, Fr (frP i) σ σ4 → σ4.2 = σ.2 → mpin σ4 i (fun x y => (aX a i 0 ≤ x ∧ x ≤ aX a i 1 ∧ aY a i 0 ≤ y ∧ y < py) ∨ (y = py ∧ aX a i 0 ≤ x ∧ x < px)) → g_X8_draws (d + 4) 176 [(0, aN 132), (1, aI (nI i)), (2, aI (nI (8 * i))), (3, aI (nI py)), (4, aI (nI px))] σ4 Q) (aX a i 1 + 1) (aX a i 0) (by omega) ?_ ?_
        · exact L3 σ3 f3 g3 (m3.c (fun x y _ _ => ⟨Or.inl, fun q => q.resolve_right (fun z => by omega)⟩))
        · intro σ4 f4 g4 m4
          have r1 := (hC.fr f4).2.2 1 (by omega)
          refine b_X8_draws_176 (d + 3) _ _ _ _ σ4 Q ?_
          rw [nI_1, nI_1, nI_clamp (n := 8 * i + 1) (by omega), r1.1]
          refine ⟨vp_in_nI (by omega) (by omega), fun _ => ih σ4 f4 g4 (m4.c (fun x y _ _ => ?_)), fun c => absurd ((lt_nI (by omega) (by omega)).mpr (by omega)) c⟩
          omega
        · intro px hpx0 hpx ih2 σ4 f4 g4 m4
          have r1 := (hC.fr f4).2.2 1 (by omega)
          refine b_X8_draws_176 (d + 3) _ _ _ _ σ4 Q ?_
          rw [nI_1, nI_1, nI_clamp (n := 8 * i + 1) (by omega), r1.1]
          refine ⟨vp_in_nI (by omega) (by omega), fun c => absurd ((lt_nI (by omega) (by omega)).mp c) (by omega), fun _ => ?_⟩
          rw [nI_iI px, nI_iI py]
          refine s_X8_puts (d + 1) i hi (by omega) (by omega) (by omega) (by omega) σ4 _ m4 _ (fun σ5 f5 g5 m5 => ?_)
          rw [← nI_iI py, ← nI_iI px, nI_1]
          exact ih2 σ5 (f4.tr f5) (g5.trans g4) (m5.c (fun x y _ _ => by unfold ptS; omega))
    · have hk2 : aKi a i = 2 := (nI_eq (b := 2) (by omega) (by omega)).mp ck
      have cxf : ∀ σ2, Fr (frP i) σ σ2 → σ2.1 138 (8 * i) = iI (aX a i 0) ∧ σ2.1 139 (8 * i) = iI (aY a i 0) := fun σ2 f2 => by
        have p0 := (hC.fr f2).2.2 0 (by omega)
        rw [Nat.add_zero] at p0
        rw [← nI_iI, ← nI_iI]
        exact p0
      have v8 : vp_in (nI (8 * i)) 96 := vp_in_nI (by omega) (by omega)
      refine ⟨v8, v8, ?_⟩
      rw [(cxf σ1 f1).1, (cxf σ1 f1).2]
      refine s_X8_puts (d + 1) i hi (by omega) (by omega) (by omega) (by omega) σ1 _ m0 _ (fun σ2 f2 g2 m2 => ⟨v8, v8, ?_⟩)
      have f2 := f1.tr f2
      rw [(cxf σ2 f2).1, (cxf σ2 f2).2, show (1 : Int32) = iI 1 from rfl, iI_add]
      refine s_X8_puts (d + 1) i hi (by omega) (by omega) (by omega) (by omega) σ2 _ m2 _ (fun σ3 f3 g3 m3 => ⟨v8, v8, ?_⟩)
      have f3 := f2.tr f3
      rw [(cxf σ3 f3).1, (cxf σ3 f3).2, iI_sub]
      refine s_X8_puts (d + 1) i hi (by omega) (by omega) (by omega) (by omega) σ3 _ m3 _ (fun σ4 f4 g4 m4 => ⟨v8, v8, ?_⟩)
      have f4 := f3.tr f4
      rw [(cxf σ4 f4).1, (cxf σ4 f4).2, iI_add]
      refine s_X8_puts (d + 1) i hi (by omega) (by omega) (by omega) (by omega) σ4 _ m4 _ (fun σ5 f5 g5 m5 => ⟨v8, v8, ?_⟩)
      have f5 := f4.tr f5
      rw [(cxf σ5 f5).1, (cxf σ5 f5).2, iI_sub]
      refine s_X8_puts (d + 1) i hi (by omega) (by omega) (by omega) (by omega) σ5 _ m5 _ (fun σ6 f6 g6 m6 => h σ6 (f5.tr f6) (g6.trans (g5.trans (g4.trans (g3.trans (g2.trans g1))))) (m6.c (fun x y hx hy => ?_)))
      constructor
      · intro q
        refine ⟨hx, hy, Or.inr (Or.inr ⟨hk2, ?_⟩)⟩
        simp only [ptS, false_or] at q
        unfold markP
        omega
      · rintro ⟨_, _, (⟨q, _⟩ | ⟨q, _⟩ | ⟨_, q⟩)⟩
        · omega
        · omega
        · unfold markP at q
          simp only [ptS, false_or]
          omega
  · intro j hj ih σ1 f1 g1 z1
    refine b_X8_draws_2 (d + 3) _ _ σ1 Q ⟨fun c => absurd ((le_nI (n := 576) (by omega) (by omega)).mp c) (by omega), fun _ => ?_⟩
    rw [ix576b, nI_clamp (by omega), nI_1]
    refine ⟨vp_in_nI (by omega) (by omega), ih _ (f1.tr (Fr.up σ1 _ (by unfold frP; omega))) g1 (fun j' hj' => ?_)⟩
    rw [tk_up_at]
    by_cases e : j' = j
    · rw [if_pos (by omega)]
    · rw [if_neg (by omega)]; exact z1 j' (by omega)
