/-! the class' drawing -/
def xco (a : Ab) (σ : tk_S) (k i : Nat) : Prop := σ.1 k 0 = nI (aKi a i) ∧ σ.1 k 2 = nI (aNc a i) ∧ ∀ j, j < aNc a i → σ.1 (k + 1) j = nI (aX a i j) ∧ σ.1 (k + 2) j = nI (aY a i j)
theorem xco.fr {a : Ab} {σ σ1 : tk_S} {k i : Nat} (h : xco a σ k i) (f : Fr (frK (k + 3 + 1)) σ σ1) : xco a σ1 k i := by
  have e : ∀ k' j, k' ≠ k + 3 + 1 → σ1.1 k' j = σ.1 k' j := fun k' j hk => f k' j (fun q => hk q)
  refine ⟨by rw [e _ _ (by omega)]; exact h.1, by rw [e _ _ (by omega)]; exact h.2.1, fun j hj => ?_⟩
  rw [e _ _ (by omega), e _ _ (by omega)]
  exact h.2.2 j hj
set_option maxHeartbeats 1000000 in
theorem s_X3_drawLine (d k : Nat) (hk : tk_sh k = tk_shape) (a : Ab) (i : Nat) (hW : WFs a i) (hk0 : aKi a i = 0) (σ : tk_S) (hC : xco a σ k i) (hS : xrow σ (k + 3 + 1) (fun _ _ => False)) (Q : tk_S → Prop) (h : ∀ σ', Fr (frK (k + 3 + 1)) σ σ' → σ'.2 = σ.2 → xrow σ' (k + 3 + 1) (pinP a i) → Q σ') : p_X3_drawLine (d + 3) [aN k] σ Q := by
  obtain ⟨w0, w1, w2, w3, w4, w5, w6, w7⟩ := hW
  have x0 := w5 0 (by omega)
  have c0 := hC.2.2 0 (by omega)
  refine e_X3_drawLine (d + 3) k (b_X3_drawLine_0 (d + 2) k hk σ Q ?_)
  rw [show Int32.toNatClampNeg 0 = 0 from rfl, c0.1, c0.2, nI_iI, nI_iI]
  refine s_raise (d + 1) (k + 3) (tk_s3 hk) (by omega) (by omega) (by omega) (by omega) σ _ hS _ (fun σ2 f2 g2 m2 => ?_)
  have m2 : xrow σ2 (k + 3 + 1) (lnS a i 0) := m2.c (fun x y _ _ => ⟨fun q => by
    rcases q with q | q
    · exact q.elim
    · exact Or.inl ⟨by omega, by omega⟩, fun q => by
    rcases q with q | ⟨k, t, q, _⟩
    · exact Or.inr ⟨by omega, by omega⟩
    · exact absurd q (Nat.not_lt_zero k)⟩)
  have L2 := up_loop (fun j => ∀ σ3, Fr (frK (k + 3 + 1)) σ σ3 → σ3.2 = σ.2 → xrow σ3 (k + 3 + 1) (lnS a i j) → g_X3_drawLine (d + 3) 21 [(0, aN k), (1, aI (nI (j + 1)))] σ3 Q) (aNc a i - 1) ?_ ?_
  · exact L2 σ2 f2 g2 m2
  · intro σ3 f3 g3 m3
    have c3 := hC.fr f3
    refine b_X3_drawLine_21 (d + 2) k hk _ σ3 Q ?_
    rw [c3.2.1, show aNc a i - 1 + 1 = aNc a i by omega]
    refine ⟨fun _ => h σ3 f3 g3 (m3.c (fun x y hx hy => ?_)), fun c => absurd ((le_nI (by omega) (by omega)).mpr (Nat.le_refl _)) c⟩
    constructor
    · rintro (q | ⟨k, t, q1, q2⟩)
      · exact ⟨hx, hy, Or.inl ⟨hk0, Or.inl q⟩⟩
      · exact ⟨hx, hy, Or.inl ⟨hk0, Or.inr ⟨k, t, by omega, q2⟩⟩⟩
    · rintro ⟨_, _, (⟨_, (q | ⟨k, t, q1, q2⟩)⟩ | ⟨q, _⟩ | ⟨q, _⟩)⟩
      · exact Or.inl q
      · exact Or.inr ⟨k, t, by omega, q2⟩
      · omega
      · omega
  · intro j hj ih σ3 f3 g3 m3
    have c3 := hC.fr f3
    have p0 := c3.2.2 j (by omega)
    have p1 := c3.2.2 (j + 1) (by omega)
    have q0 := w5 j (by omega)
    have q1 := w5 (j + 1) (by omega)
    refine b_X3_drawLine_21 (d + 2) k hk _ σ3 Q ?_
    rw [nI_pred, nI_1, nI_clamp (n := j) (by omega), nI_clamp (n := j + 1) (by omega), c3.2.1]
    refine ⟨fun c => absurd ((le_nI (by omega) (by omega)).mp c) (by omega), fun _ => ⟨vp_in_nI (by omega) (by omega), vp_in_nI (by omega) (by omega), vp_in_nI (by omega) (by omega), vp_in_nI (by omega) (by omega), ?_⟩⟩
    rw [p0.1, p0.2, p1.1, p1.2, nI_iI (aX a i j), nI_iI (aY a i j), nI_iI (aX a i (j + 1)), nI_iI (aY a i (j + 1))]
    refine s_X3_drawStep d k hk (by omega) (by omega) (by omega) (by omega) σ3 _ m3 _ (stN a i j) rfl (fun σ4 f4 g4 m4 => ih σ4 (f3.tr f4) (g4.trans g3) ?_)
    exact m4.c (fun x y _ _ => lnS_suc a i j x y)
theorem row_mask : ∀ a, a < 24 → ∀ b, b < 24 → ∀ x, x < 32 → (a ≤ b → bt (((2 : Int32) <<< (nI b &&& 31)) - ((1 : Int32) <<< (nI a &&& 31))) x = decide (a ≤ x ∧ x ≤ b)) := by decide +kernel
set_option maxHeartbeats 1000000 in
theorem s_X3_drawGround (d k : Nat) (hk : tk_sh k = tk_shape) (a : Ab) (i : Nat) (hW : WFs a i) (hk1 : aKi a i = 1) (σ : tk_S) (hC : xco a σ k i) (hS : xrow σ (k + 3 + 1) (fun _ _ => False)) (Q : tk_S → Prop) (h : ∀ σ', Fr (frK (k + 3 + 1)) σ σ' → σ'.2 = σ.2 → xrow σ' (k + 3 + 1) (pinP a i) → Q σ') : p_X3_drawGround d [aN k] σ Q := by
  obtain ⟨w0, w1, w2, w3, w4, w5, w6, w7⟩ := hW
  obtain ⟨v1, v2, v3⟩ := w6 hk1
  have x0 := w5 0 (by omega)
  have x1 := w5 1 (by omega)
  have c0 := hC.2.2 0 (by omega)
  have c1 := hC.2.2 1 (by omega)
  refine e_X3_drawGround d k (b_X3_drawGround_0 d k hk σ Q (fun z1 e1 z2 e2 => ?_))
  rw [show Int32.toNatClampNeg 0 = 0 from rfl, show Int32.toNatClampNeg 1 = 1 from rfl, c0.1, c1.1] at e1
  rw [show Int32.toNatClampNeg 0 = 0 from rfl, c0.2] at e2
  subst e2
  have L2 := up_from (fun py => ∀ σ3, Fr (frK (k + 3 + 1)) σ σ3 → σ3.2 = σ.2 → xrow σ3 (k + 3 + 1) (fun x y => aX a i 0 ≤ x ∧ x ≤ aX a i 1 ∧ aY a i 0 ≤ y ∧ y < py) → g_X3_drawGround d 25 [(0, aN k), (1, aI z1), (2, aI (nI py))] σ3 Q) (aY a i 1 + 1) (aY a i 0) (by omega) ?_ ?_
  · exact L2 σ (Fr.rf σ) rfl (hS.c (fun x y _ _ => ⟨fun q => q.elim, fun q => by omega⟩))
  · intro σ3 f3 g3 m3
    have p1 := (hC.fr f3).2.2 1 (by omega)
    refine b_X3_drawGround_25 d k hk _ _ σ3 Q ?_
    rw [show Int32.toNatClampNeg 1 = 1 from rfl, p1.2]
    refine ⟨fun _ => h σ3 f3 g3 (m3.c (fun x y hx hy => ⟨fun q => ⟨hx, hy, Or.inr (Or.inl ⟨hk1, q.1, q.2.1, q.2.2.1, by omega⟩)⟩, ?_⟩)), fun c => absurd ((lt_nI (by omega) (by omega)).mpr (by omega)) c⟩
    rintro ⟨_, _, (⟨q, _⟩ | ⟨_, q1, q2, q3, q4⟩ | ⟨q, _⟩)⟩
    · omega
    · exact ⟨q1, q2, q3, by omega⟩
    · omega
  · intro py hpy0 hpy ih σ3 f3 g3 m3
    have p1 := (hC.fr f3).2.2 1 (by omega)
    refine b_X3_drawGround_25 d k hk _ _ σ3 Q ?_
    rw [show Int32.toNatClampNeg 1 = 1 from rfl, p1.2, nI_clamp (by omega), nI_1]
    refine ⟨fun c => absurd ((lt_nI (by omega) (by omega)).mp c) (by omega), fun _ => ⟨vp_in_nI (by omega) (by omega), ih _ (f3.tr (Fr.up σ3 _ rfl)) g3 (fun x y hy => ?_)⟩⟩
    rw [tk_up_at]
    by_cases ey : y = py
    · rw [if_pos ⟨rfl, ey⟩, e1]
      by_cases hx : x < 32
      · rw [row_mask _ x0.1 _ x1.1 x hx v2]
        by_cases e : aX a i 0 ≤ x ∧ x ≤ aX a i 1
        · rw [decide_eq_true e]
          exact (pB_t.mpr (by omega)).symm
        · rw [decide_eq_false e]
          exact (pB_f.mpr (by omega)).symm
      · rw [b_big (by omega)]
        exact (pB_f.mpr (by omega)).symm
    · rw [if_neg (by omega), m3 x y hy]
      exact pB_c (by omega)
set_option maxHeartbeats 1000000 in
theorem s_X3_drawMark (d k : Nat) (hk : tk_sh k = tk_shape) (a : Ab) (i : Nat) (hW : WFs a i) (hk2 : aKi a i = 2) (σ : tk_S) (hC : xco a σ k i) (hS : xrow σ (k + 3 + 1) (fun _ _ => False)) (Q : tk_S → Prop) (h : ∀ σ', Fr (frK (k + 3 + 1)) σ σ' → σ'.2 = σ.2 → xrow σ' (k + 3 + 1) (pinP a i) → Q σ') : p_X3_drawMark (d + 2) [aN k] σ Q := by
  obtain ⟨w0, w1, w2, w3, w4, w5, w6, w7⟩ := hW
  have x0 := w5 0 (by omega)
  have c0 := hC.2.2 0 (by omega)
  refine e_X3_drawMark (d + 2) k (b_X3_drawMark_0 (d + 1) k hk σ Q (fun z1 e1 z2 e2 => ?_))
  rw [show Int32.toNatClampNeg 0 = 0 from rfl, c0.1, nI_iI] at e1
  rw [show Int32.toNatClampNeg 0 = 0 from rfl, c0.2, nI_iI] at e2
  subst e1; subst e2
  rw [show (1 : Int32) = iI 1 from rfl, iI_sub, iI_add, iI_sub, iI_add]
  refine s_raise d (k + 3) (tk_s3 hk) (by omega) (by omega) (by omega) (by omega) σ _ hS _ (fun σ2 f2 g2 m2 => ?_)
  refine s_raise d (k + 3) (tk_s3 hk) (by omega) (by omega) (by omega) (by omega) σ2 _ m2 _ (fun σ3 f3 g3 m3 => ?_)
  refine s_raise d (k + 3) (tk_s3 hk) (by omega) (by omega) (by omega) (by omega) σ3 _ m3 _ (fun σ4 f4 g4 m4 => ?_)
  refine s_raise d (k + 3) (tk_s3 hk) (by omega) (by omega) (by omega) (by omega) σ4 _ m4 _ (fun σ5 f5 g5 m5 => ?_)
  refine s_raise d (k + 3) (tk_s3 hk) (by omega) (by omega) (by omega) (by omega) σ5 _ m5 _ (fun σ6 f6 g6 m6 => h σ6 ((((f2.tr f3).tr f4).tr f5).tr f6) (g6.trans (g5.trans (g4.trans (g3.trans g2)))) (m6.c (fun x y hx hy => ?_)))
  constructor
  · intro q
    refine ⟨hx, hy, Or.inr (Or.inr ⟨hk2, ?_⟩)⟩
    simp only [ptS, false_or] at q
    unfold markP
    omega
  · rintro ⟨_, _, (⟨q, _⟩ | ⟨q, _⟩ | ⟨_, q⟩)⟩
    · omega
    · omega
    · unfold markP at q
      simp only [ptS, false_or]
      omega
theorem s_X3_draw (d k : Nat) (hk : tk_sh k = tk_shape) (a : Ab) (i : Nat) (hW : WFs a i) (σ : tk_S) (hC : xco a σ k i) (Q : tk_S → Prop) (h : ∀ σ', Fr (frK (k + 3 + 1)) σ σ' → σ'.2 = σ.2 → xrow σ' (k + 3 + 1) (pinP a i) → Q σ') : p_X3_draw (d + 4) [aN k] σ Q := by
  refine e_X3_draw (d + 4) k (b_X3_draw_0 (d + 3) k hk σ Q (s_X2_clear (d + 3) (k + 3) (tk_s3 hk) σ _ ?_))
  generalize e1 : tk_fill σ (k + 3 + 1) 24 (fun _ => 0) = σ1
  have f1 : Fr (frK (k + 3 + 1)) σ σ1 := by rw [← e1]; exact Fr.fill σ _ (fun _ => rfl)
  have g1 : σ1.2 = σ.2 := by rw [← e1]; rfl
  have c1 := hC.fr f1
  have m1 : xrow σ1 (k + 3 + 1) (fun _ _ => False) := fun x y hy => by
    rw [← e1, tk_fill_s]
    simp only [hy, if_true]
    rw [b_0]
    exact (pB_f.mpr (fun q => q.2)).symm
  have hw0 := hW.1
  rw [c1.1]
  refine ⟨fun c0 => ⟨fun c2 => ?_, fun c2 => ?_⟩, fun c0 => ?_⟩
  · have hk2 : aKi a i = 2 := by
      have n0 : aKi a i ≠ 0 := fun q => c0 (by rw [q]; rfl)
      have n1 : aKi a i ≠ 1 := fun q => c2 (by rw [q]; rfl)
      omega
    exact s_X3_drawMark (d + 1) k hk a i hW hk2 σ1 c1 m1 _ (fun σ2 f2 g2 m2 => h σ2 (f1.tr f2) (g2.trans g1) m2)
  · exact s_X3_drawGround (d + 3) k hk a i hW ((nI_eq (b := 1) (by omega) (by omega)).mp c2) σ1 c1 m1 _ (fun σ2 f2 g2 m2 => h σ2 (f1.tr f2) (g2.trans g1) m2)
  · exact s_X3_drawLine d k hk a i hW ((nI_eq (b := 0) (by omega) (by omega)).mp c0) σ1 c1 m1 _ (fun σ2 f2 g2 m2 => h σ2 (f1.tr f2) (g2.trans g1) m2)
