/-! FAR: the reference reckons it pin by pin -/
def dst (p q : Nat) : Nat := max (((p % 24 : Nat) : Int) - ((q % 24 : Nat) : Int)).natAbs (((p / 24 : Nat) : Int) - ((q / 24 : Nat) : Int)).natAbs
def lbF (S T : Nat → Nat → Prop) (p q0 L : Nat) : Prop := L ≤ 24 ∧ (L = 24 ∨ ∃ p' q, p' < 576 ∧ q < 576 ∧ S (p' % 24) (p' / 24) ∧ T (q % 24) (q / 24) ∧ dst p' q = L) ∧ (∀ p' q, p' < p → q < 576 → S (p' % 24) (p' / 24) → T (q % 24) (q / 24) → L ≤ dst p' q) ∧ ∀ q, q < q0 → S (p % 24) (p / 24) → T (q % 24) (q / 24) → L ≤ dst p q
theorem mpin_at {σ : tk_S} {i : Nat} {S : Nat → Nat → Prop} (h : mpin σ i S) {p : Nat} (hp : p < 576) : σ.1 140 (576 * i + p) = b2i (pB (S (p % 24) (p / 24))) := by
  have := h (p % 24) (p / 24) (by omega) (by omega)
  rw [show 576 * i + 24 * (p / 24) + p % 24 = 576 * i + p by omega] at this
  exact this
theorem rem24 (p : Nat) (hp : p < 2 ^ 31) : nI p - nI p / 24 * 24 = nI (p % 24) := pk_rem (d := 24) hp (by omega) (by omega)
theorem div24 (p : Nat) (hp : p < 2 ^ 31) : nI p / 24 = nI (p / 24) := pk_div (d := 24) hp (by omega) (by omega)
set_option maxHeartbeats 2000000 in
theorem s_X8_farOf (d i j : Nat) (hi : i < 12) (hj : j < 12) (σ : tk_S) (S T : Nat → Nat → Prop) (hS : mpin σ i S) (hT : mpin σ j T) (Q : Int32 → tk_S → Prop) (h : ∀ L, lbF S T 576 0 L → Q (nI L) σ) : p_X8_farOf (d + 1) [aN 132, aI (nI i), aI (nI j)] σ Q := by
  refine e_X8_farOf (d + 1) _ _ (b_X8_farOf_0 d _ _ σ Q ?_)
  have O := up_loop (fun p => ∀ L, lbF S T p 0 L → g_X8_farOf (d + 1) 6 [(0, aN 132), (1, aI (nI i)), (2, aI (nI j)), (3, aI (nI L)), (4, aI (nI p))] σ Q) 576 ?_ ?_
  · exact O 24 ⟨Nat.le_refl _, Or.inl rfl, fun p' q hp => absurd hp (Nat.not_lt_zero _), fun q hq => absurd hq (Nat.not_lt_zero _)⟩
  · intro L hL
    exact b_X8_farOf_6 d _ _ _ _ σ Q ⟨fun _ => h L hL, fun c => absurd (by decide) c⟩
  · intro p hp ih L hL
    have hL24 := hL.1
    refine b_X8_farOf_6 d _ _ _ _ σ Q ⟨fun c => absurd ((le_nI (n := 576) (by omega) (by omega)).mp c) (by omega), fun _ => ⟨fun c => ?_, fun cL => ?_⟩⟩
    · have h0 : L = 0 := by have := (le_nI (k := 0) (by omega) (by omega)).mp c; omega
      refine h L ⟨hL.1, hL.2.1, fun p' q _ _ _ _ => by omega, fun q hq => absurd hq (Nat.not_lt_zero _)⟩
    rw [ix576b, nI_clamp (by omega), mpin_at hS hp, nI_1]
    refine ⟨vp_in_nI (by omega) (by omega), fun c => ?_, fun c => ?_⟩
    · have hs : S (p % 24) (p / 24) := pB_t.mp (b2i_n.mp c)
      have I := up_loop (fun q => ∀ L, lbF S T p q L → g_X8_farOf (d + 1) 40 [(0, aN 132), (1, aI (nI i)), (2, aI (nI j)), (3, aI (nI L)), (4, aI (nI p)), (5, aI (nI q))] σ Q) 576 ?_ ?_
      · exact I L hL
      · intro L hL
        refine b_X8_farOf_40 d _ _ _ _ _ σ Q ⟨fun _ => ?_, fun c => absurd (by decide) c⟩
        rw [nI_1]
        refine ih L ⟨hL.1, hL.2.1, fun p' q hp' hq s t => ?_, fun q hq => absurd hq (Nat.not_lt_zero _)⟩
        by_cases e : p' = p
        · subst e; exact hL.2.2.2 q hq s t
        · exact hL.2.2.1 p' q (by omega) hq s t
      · intro q hq ih2 L hL
        have hL24 := hL.1
        refine b_X8_farOf_40 d _ _ _ _ _ σ Q ⟨fun c => absurd ((le_nI (n := 576) (by omega) (by omega)).mp c) (by omega), fun _ => ⟨fun c => ?_, fun c0 => ?_⟩⟩
        · have h0 : L = 0 := by have := (le_nI (k := 0) (by omega) (by omega)).mp c; omega
          rw [nI_1]
          exact ih L ⟨hL.1, hL.2.1, fun p' q _ _ _ _ => by omega, fun q hq => absurd hq (Nat.not_lt_zero _)⟩
        rw [ix576b, nI_clamp (by omega), mpin_at hT hq, nI_1]
        refine ⟨vp_in_nI (by omega) (by omega), fun c => ?_, fun c => ?_⟩
        · have ht : T (q % 24) (q / 24) := pB_t.mp (b2i_n.mp c)
          rw [rem24 p (by omega), rem24 q (by omega), div24 p (by omega), div24 q (by omega), nI_iI (p % 24), nI_iI (q % 24), nI_iI (p / 24), nI_iI (q / 24), iI_sub, iI_sub]
          have up : ∀ M, M = min L (dst p q) → lbF S T p (q + 1) M := by
            intro M eM
            refine ⟨by omega, ?_, fun p' q' hp' hq' s t => ?_, fun q' hq' s t => ?_⟩
            · by_cases hle : L ≤ dst p q
              · rw [show M = L by omega]; exact hL.2.1
              · exact Or.inr ⟨p, q, hp, hq, hs, ht, by omega⟩
            · have := hL.2.2.1 p' q' hp' hq' s t; omega
            · by_cases e : q' = q
              · subst e; omega
              · have := hL.2.2.2 q' (by omega) s t; omega
          have b1 : (((p % 24 : Nat) : Int) - ((q % 24 : Nat) : Int)).natAbs ≤ 24 := by omega
          have b2 : (((p / 24 : Nat) : Int) - ((q / 24 : Nat) : Int)).natAbs ≤ 24 := by omega
          have ed : dst p q = max (((p % 24 : Nat) : Int) - ((q % 24 : Nat) : Int)).natAbs (((p / 24 : Nat) : Int) - ((q / 24 : Nat) : Int)).natAbs := rfl
          refine s_X8_abs d (by omega) (by omega) σ _ (s_X8_abs d (by omega) (by omega) σ _ ?_)
          generalize (((p % 24 : Nat) : Int) - ((q % 24 : Nat) : Int)).natAbs = u at b1 ed ⊢
          generalize (((p / 24 : Nat) : Int) - ((q / 24 : Nat) : Int)).natAbs = v at b2 ed ⊢
          refine ⟨fun c1 => ⟨fun c2 => ?_, fun c2 => ?_⟩, fun c1 => ⟨fun c2 => ?_, fun c2 => ?_⟩⟩
          · have h1 := (le_nI (by omega) (by omega)).mp c1
            have h2 := (le_nI (by omega) (by omega)).mp c2
            exact ih2 L (up L (by omega))
          · have h1 := (le_nI (by omega) (by omega)).mp c1
            have h2 : ¬ L ≤ v := fun z => c2 ((le_nI (by omega) (by omega)).mpr z)
            exact ih2 v (up v (by omega))
          · have h1 : ¬ u ≤ v := fun z => c1 ((le_nI (by omega) (by omega)).mpr z)
            have h2 := (le_nI (by omega) (by omega)).mp c2
            exact ih2 L (up L (by omega))
          · have h1 : ¬ u ≤ v := fun z => c1 ((le_nI (by omega) (by omega)).mpr z)
            have h2 : ¬ L ≤ u := fun z => c2 ((le_nI (by omega) (by omega)).mpr z)
            exact ih2 u (up u (by omega))
        · have ht : ¬ T (q % 24) (q / 24) := pB_f.mp (b2i_0.mp c)
          refine ih2 L ⟨hL.1, hL.2.1, hL.2.2.1, fun q' hq' s t => ?_⟩
          by_cases e : q' = q
          · subst e; exact absurd t ht
          · exact hL.2.2.2 q' (by omega) s t
    · have hs : ¬ S (p % 24) (p / 24) := pB_f.mp (b2i_0.mp c)
      refine ih L ⟨hL.1, hL.2.1, fun p' q hp' hq s t => ?_, fun q hq => absurd hq (Nat.not_lt_zero _)⟩
      by_cases e : p' = p
      · subst e; exact absurd s hs
      · exact hL.2.2.1 p' q (by omega) hq s t
theorem pin_ne {a : Ab} {i : Nat} (h : WFs a i) : ∃ x y, pinP a i x y := by
  obtain ⟨w0, w1, w2, w3, w4, w5, w6, w7⟩ := h
  have x0 := w5 0 (by omega)
  refine ⟨aX a i 0, aY a i 0, x0.1, x0.2, ?_⟩
  rcases (show aKi a i = 0 ∨ aKi a i = 1 ∨ aKi a i = 2 by omega) with q | q | q
  · exact Or.inl ⟨q, Or.inl ⟨rfl, rfl⟩⟩
  · have := w6 q
    exact Or.inr (Or.inl ⟨q, Nat.le_refl _, this.2.1, Nat.le_refl _, this.2.2⟩)
  · exact Or.inr (Or.inr ⟨q, Or.inl ⟨rfl, rfl⟩⟩)
theorem far_of_lb {a : Ab} {i j L : Nat} (hi : WFs a i) (hj : WFs a j) (h : lbF (pinP a i) (pinP a j) 576 0 L) : isFar a i j L := by
  obtain ⟨h0, h1, h2, -⟩ := h
  have key : ∀ x y x' y', pinP a i x y → pinP a j x' y' → L ≤ max ((x : Int) - x').natAbs ((y : Int) - y').natAbs := by
    intro x y x' y' p q
    have g1 := p.1
    have g2 := p.2.1
    have g3 := q.1
    have g4 := q.2.1
    have e1 : (24 * y + x) % 24 = x := by omega
    have e2 : (24 * y + x) / 24 = y := by omega
    have e3 : (24 * y' + x') % 24 = x' := by omega
    have e4 : (24 * y' + x') / 24 = y' := by omega
    have := h2 (24 * y + x) (24 * y' + x') (by omega) (by omega) (by rw [e1, e2]; exact p) (by rw [e3, e4]; exact q)
    unfold dst at this
    rw [e1, e2, e3, e4] at this
    exact this
  obtain ⟨x, y, p⟩ := pin_ne hi
  obtain ⟨x', y', q⟩ := pin_ne hj
  have hlt : L < 24 := by
    have := key x y x' y' p q
    have g1 := p.1
    have g2 := p.2.1
    have g3 := q.1
    have g4 := q.2.1
    omega
  refine ⟨hlt, ?_, fun e he hr => ?_⟩
  · rcases h1 with z | ⟨p', q', z1, z2, z3, z4, z5⟩
    · omega
    · refine ⟨_, _, _, _, z3, z4, ?_⟩
      unfold dst at z5
      omega
  · obtain ⟨x, y, x', y', p, q, r⟩ := hr
    have := key x y x' y' p q
    omega
theorem far_uq {a : Ab} {i j f g : Nat} (h : isFar a i j f) (h2 : isFar a i j g) : f = g := by
  rcases Nat.lt_trichotomy f g with q | q | q
  · exact absurd h.2.1 (h2.2.2 f q)
  · exact q
  · exact absurd h2.2.1 (h.2.2 g q)
theorem reach_sym {a : Ab} {i j d : Nat} (h : reach a i j d) : reach a j i d := by
  obtain ⟨x, y, x', y', p, q, r1, r2, r3, r4⟩ := h
  exact ⟨x', y', x, y, q, p, r2, r1, r4, r3⟩
theorem far_sym {a : Ab} {i j f : Nat} (h : isFar a i j f) : isFar a j i f := ⟨h.1, reach_sym h.2.1, fun e he q => h.2.2 e he (reach_sym q)⟩
theorem reach_mono {a : Ab} {i j d e : Nat} (h : reach a i j d) (hd : d ≤ e) : reach a i j e := by
  obtain ⟨x, y, x', y', p, q, r⟩ := h
  exact ⟨x, y, x', y', p, q, by omega⟩
theorem reach_23 {a : Ab} {i j : Nat} (hi : WFs a i) (hj : WFs a j) : reach a i j 23 := by
  obtain ⟨x, y, p⟩ := pin_ne hi
  obtain ⟨x', y', q⟩ := pin_ne hj
  have g1 := p.1
  have g2 := p.2.1
  have g3 := q.1
  have g4 := q.2.1
  exact ⟨x, y, x', y', p, q, by omega⟩
