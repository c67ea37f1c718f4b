/-! the steps mark, ground, line -/
section AS
variable (a : Ab) (ki w nc wn : Nat) (X Y : Nat → Nat)
theorem addS_ki : aKi (addS a ki w nc wn X Y) (aN0 a) = ki := by simp [addS]
theorem addS_wo : aWo (addS a ki w nc wn X Y) (aN0 a) = w := by simp [addS]
theorem addS_nc : aNc (addS a ki w nc wn X Y) (aN0 a) = nc := by simp [addS]
theorem addS_x (k : Nat) : aX (addS a ki w nc wn X Y) (aN0 a) k = X k := by simp [addS]
theorem addS_y (k : Nat) : aY (addS a ki w nc wn X Y) (aN0 a) k = Y k := by simp [addS]
theorem addS_o {c i j : Nat} (hc : 1 ≤ c) (hc5 : c ≤ 5) (h : i ≠ aN0 a) : addS a ki w nc wn X Y c i j = a c i j := by
  unfold addS
  rw [if_neg (by omega), if_neg (by omega), if_neg (by omega), if_neg (by omega), if_neg (by omega), if_neg (by omega), if_neg (by omega), if_neg (by omega)]
theorem addS_me (i j : Nat) : aMe (addS a ki w nc wn X Y) i j = if i = aN0 a ∨ j = aN0 a then 0 else aMe a i j := by simp [addS]
end AS
theorem WFs_c {a a' : Ab} {i : Nat} (h1 : aKi a' i = aKi a i) (h2 : aWo a' i = aWo a i) (h3 : aNc a' i = aNc a i) (h4 : ∀ k, aX a' i k = aX a i k) (h5 : ∀ k, aY a' i k = aY a i k) (h : WFs a i) : WFs a' i := by
  unfold WFs at h ⊢
  simp only [h1, h2, h3, h4, h5]
  exact h
theorem XIs_c {a a' : Ab} {σ : tk_S} {i : Nat} (h1 : aKi a' i = aKi a i) (h2 : aWo a' i = aWo a i) (h3 : aNc a' i = aNc a i) (h4 : ∀ k, aX a' i k = aX a i k) (h5 : ∀ k, aY a' i k = aY a i k) (h : XIs a σ i) : XIs a' σ i := by
  have hp := pinP_c h1 h3 h4 h5
  unfold XIs at h ⊢
  simp only [h1, h2, h3, h4, h5, hp]
  exact h
theorem MIs_c {a a' : Ab} {σ : tk_S} {i : Nat} (h1 : aKi a' i = aKi a i) (h2 : aWo a' i = aWo a i) (h3 : aNc a' i = aNc a i) (h4 : ∀ k, aX a' i k = aX a i k) (h5 : ∀ k, aY a' i k = aY a i k) (h : MIs a σ i) : MIs a' σ i := by
  have hp := pinP_c h1 h3 h4 h5
  unfold MIs at h ⊢
  simp only [h1, h2, h3, h4, h5, hp]
  exact h
section AT
variable {a : Ab} {ki w nc wn : Nat} {X Y : Nat → Nat}
theorem addS_pin {i : Nat} (h : i ≠ aN0 a) (x y : Nat) : pinP (addS a ki w nc wn X Y) i x y ↔ pinP a i x y := pinP_c (addS_o a ki w nc wn X Y (by omega) (by omega) h) (addS_o a ki w nc wn X Y (by omega) (by omega) h) (fun k => addS_o a ki w nc wn X Y (by omega) (by omega) h) (fun k => addS_o a ki w nc wn X Y (by omega) (by omega) h) x y
theorem addS_WF (hw : WF a) (hn : aN0 a < 12) (hk : ki ≤ 2) (hw1 : 1 ≤ w) (hw9 : w ≤ 9) (hc1 : 1 ≤ nc) (hc8 : nc ≤ 8) (hxy : ∀ k, k < nc → X k < 24 ∧ Y k < 24) (hg : ki = 1 → nc = 2 ∧ X 0 ≤ X 1 ∧ Y 0 ≤ Y 1) (hm : ki = 2 → nc = 1) (hwn : wn ≤ aWn a) : WF (addS a ki w nc wn X Y) := by
  obtain ⟨w0, w1, w2, w3, w4, w5, w6, w7, w8, w9, w10⟩ := hw
  refine ⟨(show aN0 a + 1 ≤ 12 by omega), (show wn ≤ 8 by omega), w2, w3, fun k hk => w4 k (by have hk : k < wn := hk; omega), fun i hi => ?_, fun i j hi hj => ?_, w7, w8, w9, w10⟩
  · by_cases e : i = aN0 a
    · subst e
      unfold WFs
      simp only [addS_ki, addS_wo, addS_nc, addS_x, addS_y]
      exact ⟨hk, hw1, hw9, hc1, hc8, hxy, hg, hm⟩
    · have hi : i < aN0 a + 1 := hi
      exact WFs_c (addS_o a ki w nc wn X Y (by omega) (by omega) e) (addS_o a ki w nc wn X Y (by omega) (by omega) e) (addS_o a ki w nc wn X Y (by omega) (by omega) e) (fun k => addS_o a ki w nc wn X Y (by omega) (by omega) e) (fun k => addS_o a ki w nc wn X Y (by omega) (by omega) e) (w5 i (by omega))
  · have hi : i < aN0 a + 1 := hi
    have hj : j < aN0 a + 1 := hj
    rw [addS_me, addS_me]
    by_cases e : i = aN0 a ∨ j = aN0 a
    · rw [if_pos e, if_pos (by omega)]; omega
    · rw [if_neg e, if_neg (by omega)]; exact w6 i j (by omega) (by omega)
theorem XJ_of {σ σ1 : tk_S} (hX : XI a σ) (hn : aN0 a < 12) (hwn : wn ≤ aWn a) (rd : ∀ k j, ¬ ((72 + 5 * aN0 a ≤ k ∧ k ≤ 72 + 5 * aN0 a + 2) ∨ (k = 0 ∧ j = 4)) → σ1.1 k j = σ.1 k j) (h4 : σ1.1 0 4 = nI wn) (hc : xco (addS a ki w nc wn X Y) σ1 (72 + 5 * aN0 a) (aN0 a)) (hwo : σ1.1 (72 + 5 * aN0 a) 1 = nI w) : XJ (addS a ki w nc wn X Y) (aN0 a) σ1 := by
  obtain ⟨g0, g1, g2, g3, g4, g5, g6, g7, g8, g9⟩ := hX
  refine ⟨by rw [rd _ _ (by omega)]; exact g0, h4, by rw [rd _ _ (by omega)]; exact g2, fun k hk => ?_, fun i hi => ?_, ⟨hc, by rw [hwo, addS_wo]⟩, fun i j hi => ?_, fun s t hs => ?_, fun t ht => ?_, fun i j hi hj => ?_, fun x y hy => ?_⟩
  · have hk : k < wn := hk
    rw [rd _ _ (by omega), rd _ _ (by omega)]; exact g3 k (by omega)
  · have e : i ≠ aN0 a := by omega
    exact XIs_c (addS_o a ki w nc wn X Y (by omega) (by omega) e) (addS_o a ki w nc wn X Y (by omega) (by omega) e) (addS_o a ki w nc wn X Y (by omega) (by omega) e) (fun k => addS_o a ki w nc wn X Y (by omega) (by omega) e) (fun k => addS_o a ki w nc wn X Y (by omega) (by omega) e) (XIs.keep (g4 i hi) (fun k j h1 h2 => rd k j (by omega)))
  · rw [rd _ _ (by omega), g5 i j hi, addS_me]
    show decide (i < aN0 a ∧ j < aN0 a ∧ aMe a i j = 1) = decide (i < aN0 a + 1 ∧ j < aN0 a + 1 ∧ _)
    by_cases e : i = aN0 a ∨ j = aN0 a
    · rw [if_pos e]
      exact (decide_eq_false (by omega)).trans (decide_eq_false (by omega)).symm
    · rw [if_neg e]
      exact decide_eq_decide.mpr (by omega)
  · rw [rd _ _ (by omega)]; exact g6 s t hs
  · rw [rd _ _ (by omega)]; exact g7 t ht
  · rw [rd _ _ (by omega)]
    obtain ⟨f, z1, z2⟩ := g8 i j hi hj
    exact ⟨f, z1, (isFar_c (addS_pin (by omega)) (addS_pin (by omega)) f).mpr z2⟩
  · rw [rd _ _ (by omega)]; exact g9 x y hy
/-- the reference draws the shape that has come -/
theorem s_draw_new (d : Nat) (hw' : WF (addS a ki w nc wn X Y)) (hn : aN0 a < 12) (hwn : wn ≤ aWn a) {σ σ1 : tk_S} (hM : MI a σ) (c0 : σ1.1 132 0 = nI (aN0 a + 1)) (c1 : σ1.1 132 1 = nI wn) (ck : σ1.1 135 (aN0 a) = nI ki) (cw : σ1.1 136 (aN0 a) = nI w) (cn : σ1.1 137 (aN0 a) = nI nc) (cx : ∀ k, k < nc → σ1.1 138 (8 * aN0 a + k) = nI (X k) ∧ σ1.1 139 (8 * aN0 a + k) = nI (Y k)) (cm : ∀ i j, i < 12 → j < 12 → σ1.1 141 (12 * i + j) = if i = aN0 a ∨ j = aN0 a then 0 else σ.1 141 (12 * i + j)) (rd : ∀ k j, ¬ ((k = 132 ∧ j < 2) ∨ ((k = 135 ∨ k = 136 ∨ k = 137) ∧ j = aN0 a) ∨ ((k = 138 ∨ k = 139) ∧ 8 * aN0 a ≤ j ∧ j < 8 * aN0 a + 8) ∨ k = 141) → σ1.1 k j = σ.1 k j) (Q : tk_S → Prop) (h : ∀ σ', MI (addS a ki w nc wn X Y) σ' → Fr frM σ1 σ' → σ'.2 = σ1.2 → Q σ') : p_X8_draws (d + 4) [aN 132, aI (nI (aN0 a))] σ1 Q := by
  have hWs : WFs (addS a ki w nc wn X Y) (aN0 a) := hw'.2.2.2.2.2.1 (aN0 a) (show aN0 a < aN0 a + 1 by omega)
  have hco : mco (addS a ki w nc wn X Y) σ1 (aN0 a) := by
    unfold mco
    simp only [addS_ki, addS_nc, addS_x, addS_y]
    exact ⟨ck, cn, cx⟩
  obtain ⟨m0, m1, m2, m3, m4, m5, m6, m7, m8⟩ := hM
  refine s_X8_draws d (aN0 a) hn _ hWs σ1 hco Q (fun σ2 f2 g2 p2 => h σ2 ?_ (f2.wk (fun k j q => by have := q.1; show 132 ≤ k; omega)) g2)
  have r2 : ∀ k j, ¬ (k = 140 ∧ 576 * aN0 a ≤ j) → σ2.1 k j = σ1.1 k j := fun k j hk => f2 k j (fun q => hk ⟨q.1, q.2.1⟩)
  have f140 : ∀ j, ¬ (576 * aN0 a ≤ j ∧ j < 576 * aN0 a + 576) → σ2.1 140 j = σ1.1 140 j := fun j hj => f2 140 j (fun q => hj q.2)
  refine ⟨by rw [r2 _ _ (by omega)]; exact c0, by rw [r2 _ _ (by omega)]; exact c1, by rw [r2 _ _ (by omega), rd _ _ (by omega)]; exact m2, fun k hk => ?_, fun i hi => ?_, fun i j hi hj => ?_, fun s t hs ht => ?_, fun t ht => ?_, fun x y hx hy => ?_⟩
  · have hk : k < wn := hk
    rw [r2 _ _ (by omega), r2 _ _ (by omega), rd _ _ (by omega), rd _ _ (by omega)]; exact m3 k (by omega)
  · have hi : i < aN0 a + 1 := hi
    by_cases e : i = aN0 a
    · subst e
      have hco2 := hco.fr f2
      exact ⟨hco2.1, by rw [r2 _ _ (by omega), addS_wo]; exact cw, hco2.2.1, hco2.2.2, p2⟩
    · obtain ⟨q0, q1, q2, q3, q4⟩ := m4 i (by omega)
      have old : MIs a σ2 i := by
        refine ⟨by rw [r2 _ _ (by omega), rd _ _ (by omega)]; exact q0, by rw [r2 _ _ (by omega), rd _ _ (by omega)]; exact q1, by rw [r2 _ _ (by omega), rd _ _ (by omega)]; exact q2, fun k hk => ?_, fun x y hx hy => ?_⟩
        · have := (hw'.2.2.2.2.2.1 i (show i < aN0 a + 1 by omega)).2.2.2.2.1
          have hnc : aNc (addS a ki w nc wn X Y) i = aNc a i := addS_o a ki w nc wn X Y (by omega) (by omega) e
          rw [r2 _ _ (by omega), r2 _ _ (by omega), rd _ _ (by omega), rd _ _ (by omega)]; exact q3 k hk
        · rw [f140 _ (by omega), rd _ _ (by omega)]; exact q4 x y hx hy
      exact MIs_c (addS_o a ki w nc wn X Y (by omega) (by omega) e) (addS_o a ki w nc wn X Y (by omega) (by omega) e) (addS_o a ki w nc wn X Y (by omega) (by omega) e) (fun k => addS_o a ki w nc wn X Y (by omega) (by omega) e) (fun k => addS_o a ki w nc wn X Y (by omega) (by omega) e) old
  · have hi : i < aN0 a + 1 := hi
    have hj : j < aN0 a + 1 := hj
    rw [r2 _ _ (by omega), cm i j (by omega) (by omega), addS_me]
    by_cases e : i = aN0 a ∨ j = aN0 a
    · rw [if_pos e, if_pos e]; rfl
    · rw [if_neg e, if_neg e]; exact m5 i j (by omega) (by omega)
  · rw [r2 _ _ (by omega), rd _ _ (by omega)]; exact m6 s t hs ht
  · rw [r2 _ _ (by omega), rd _ _ (by omega)]; exact m7 t ht
  · rw [r2 _ _ (by omega), rd _ _ (by omega)]; exact m8 x y hx hy
end AT
theorem s_X3_begin (d k : Nat) (hk : tk_sh k = tk_shape) (x1 x2 : Int32) (σ : tk_S) (Q : tk_S → Prop) (h : Q (tk_up (tk_up (tk_up σ k 0 x1) k 1 x2) k 2 0)) : p_X3_begin d [aN k, aI x1, aI x2] σ Q := e_X3_begin d k _ _ (b_X3_begin_0 d k hk _ _ σ Q (fun σ1 e1 => by rw [e1]; exact h))
theorem s_X3_addPlace (d k : Nat) (hk : tk_sh k = tk_shape) (x y : Int32) (m : Nat) (hm : m < 8) (σ : tk_S) (h0 : σ.1 k 2 = nI m) (Q : tk_S → Prop) (h : Q (tk_up (tk_up (tk_up σ (k + 1) m x) (k + 2) m y) k 2 (nI (m + 1)))) : p_X3_addPlace d [aN k, aI x, aI y] σ Q := by
  refine e_X3_addPlace d k _ _ (b_X3_addPlace_0 d k hk _ _ σ Q ?_)
  have e1 : (tk_up σ (k + 1) m x).1 k 2 = nI m := by rw [rd_o (by omega)]; exact h0
  rw [h0, nI_clamp (by omega), e1, nI_clamp (by omega)]
  refine ⟨fun c => absurd ((le_nI (n := 8) (by omega) (by omega)).mp c) (by omega), fun _ => ⟨vp_in_nI hm (by omega), vp_in_nI hm (by omega), fun σ4 e4 => ?_⟩⟩
  have e5 : σ4.1 k 2 = nI m := by rw [e4, rd_o (by omega)]; exact e1
  rw [e5, nI_1, e4]
  exact h
set_option maxHeartbeats 2000000 in
theorem step_mark (d : Nat) (x y z : Int32) (σ : tk_S) (hR : Rel σ) : p_X7_mark (d + 6) [aN 0, aI x, aI y, aI z] σ (fun r σ1 => p_X8_mark (d + 5) [aN 132, aI x, aI y, aI z] σ1 (fun r' σ2 => r = r' ∧ Rel σ2)) := by
  obtain ⟨a, hw, hX, hK, hF, hM⟩ := id hR
  have hn12 : aN0 a ≤ 12 := hw.1
  have no : ¬ (isP x y ∧ (∃ i : Nat, 1 ≤ i ∧ i ≤ 9 ∧ z = nI i) ∧ aN0 a < 12) → p_X8_mark (d + 5) [aN 132, aI x, aI y, aI z] σ (fun r' σ2 => -1 = r' ∧ Rel σ2) := by
    intro hn
    refine e_X8_mark (d + 5) x y z (b_X8_mark_0 (d + 4) x y z σ _ ?_)
    refine s_X8_isPin (d + 3) x y σ _ (fun hp => ⟨fun c => absurd c (by decide), fun _ => ?_⟩) (fun _ => ⟨fun _ => ⟨rfl, hR⟩, fun c => absurd rfl c⟩)
    exact s_X8_canCome (d + 3) z hn12 σ hM.1 _ (fun i h1 h2 h3 h4 => absurd ⟨hp, ⟨i, h1, h2, h3⟩, h4⟩ hn) (fun _ => ⟨fun c => absurd rfl c, fun _ => ⟨rfl, hR⟩⟩)
  refine e_X7_mark (d + 6) x y z (b_X7_mark_0 (d + 5) x y z σ _ ?_)
  refine s_X7_isPin (d + 5) x y σ _ (fun hp => ⟨fun c => absurd c (by decide), fun _ => ?_⟩) (fun hn => ⟨fun _ => no (fun q => hn q.1), fun c => absurd rfl c⟩)
  refine s_X7_canAdd (d + 5) z hn12 σ hX.1 _ (fun w h1 h9 ew hn => ⟨fun _ => ?_, fun c => absurd c (by decide)⟩) (fun hn => ⟨fun c => absurd rfl c, fun _ => no (fun q => hn q.2)⟩)
  obtain ⟨u, v, hu, hv, rfl, rfl⟩ := hp
  subst ew
  rw [hX.1, nI_clamp (by omega)]
  have hsh := tk_shp (i := aN0 a) hn
  have e72 : 1 + 71 + 5 * aN0 a = 72 + 5 * aN0 a := by omega
  refine ⟨vp_in_nI hn (by omega), s_X3_begin (d + 5) _ hsh _ _ σ _ (s_X3_addPlace (d + 5) _ hsh _ _ 0 (by omega) _ (by rw [rd_s]; rfl) _ ?_)⟩
  rw [e72]
  generalize e1 : tk_up (tk_up (tk_up (tk_up (tk_up (tk_up σ (72 + 5 * aN0 a) 0 2) (72 + 5 * aN0 a) 1 (nI w)) (72 + 5 * aN0 a) 2 0) (72 + 5 * aN0 a + 1) 0 (nI u)) (72 + 5 * aN0 a + 2) 0 (nI v)) (72 + 5 * aN0 a) 2 (nI (0 + 1)) = σ1
  rw [← e72]
  have rd1 : ∀ k j, ¬ (72 + 5 * aN0 a ≤ k ∧ k ≤ 72 + 5 * aN0 a + 2) → σ1.1 k j = σ.1 k j := fun k j hk => by rw [← e1, rd_o (by omega), rd_o (by omega), rd_o (by omega), rd_o (by omega), rd_o (by omega), rd_o (by omega)]
  have hw' : WF (addS a 2 w 1 (aWn a) (fun _ => u) (fun _ => v)) := addS_WF hw hn (by omega) h1 h9 (by omega) (by omega) (fun _ _ => ⟨hu, hv⟩) (fun q => by omega) (fun _ => rfl) (Nat.le_refl _)
  have hJ : XJ (addS a 2 w 1 (aWn a) (fun _ => u) (fun _ => v)) (aN0 a) σ1 := by
    refine XJ_of hX hn (Nat.le_refl _) (fun k j hk => rd1 k j (by omega)) (by rw [rd1 _ _ (by omega)]; exact hX.2.1) ?_ ?_
    · unfold xco
      simp only [addS_ki, addS_nc, addS_x, addS_y]
      refine ⟨?_, ?_, fun j hj => ⟨?_, ?_⟩⟩
      · rw [← e1, rd_o (by omega), rd_o (by omega), rd_o (by omega), rd_o (by omega), rd_o (by omega), rd_s]; rfl
      · rw [← e1, rd_s]
      · rw [show j = 0 by omega, ← e1, rd_o (by omega), rd_o (by omega), rd_s]
      · rw [show j = 0 by omega, ← e1, rd_o (by omega), rd_s]
    · rw [← e1, rd_o (by omega), rd_o (by omega), rd_o (by omega), rd_o (by omega), rd_s]
  refine s_X7_finish d (aN0 a) _ hw' rfl σ1 hJ _ (fun σ2 hX2 hK2 f2 => ?_)
  have hM2 : MI a σ2 := (hM.fr (fun k j hk => rd1 k j (fun q => hk (by show k < 132; omega)))).fr (f2.wk (fun k j q => by have : k < 54 ∨ (72 ≤ k ∧ k < 132) := q; show k < 132; omega))
  have hF2 : XF (a 11) σ2 := (hF.fr (fun k j hk => rd1 k j (by omega))).fr (fun k j hk => f2 k j (fun q => by have : k < 54 ∨ (72 ≤ k ∧ k < 132) := q; omega))
  refine e_X8_mark (d + 5) _ _ _ (b_X8_mark_0 (d + 4) _ _ _ σ2 _ ?_)
  refine s_X8_isPin (d + 3) _ _ σ2 _ (fun _ => ⟨fun c => absurd c (by decide), fun _ => ?_⟩) (fun hn => absurd ⟨u, v, hu, hv, rfl, rfl⟩ hn)
  refine s_X8_canCome (d + 3) _ hn12 σ2 hM2.1 _ (fun _ _ _ _ _ => ⟨fun _ => ?_, fun c => absurd c (by decide)⟩) (fun q => absurd ⟨⟨w, h1, h9, rfl⟩, hn⟩ q)
  refine s_X8_comes (d + 4) (aN0 a) hn σ2 hM2.1 _ _ _ _ (fun σ3 k0 k1 k2 k3 k4 k5 => ?_)
  rw [e8, nI_clamp (by omega)]
  refine ⟨vp_in_nI (by omega) (by omega), vp_in_nI (by omega) (by omega), fun σ4 e4 => ?_⟩
  have rd4 : ∀ k j, ¬ ((k = 138 ∨ k = 139) ∧ j = 8 * aN0 a) → σ4.1 k j = σ3.1 k j := fun k j hk => by rw [e4, rd_o (by omega), rd_o (by omega)]
  refine s_draw_new d hw' hn (Nat.le_refl _) hM2 (by rw [rd4 _ _ (by omega)]; exact k0) (by rw [rd4 _ _ (by omega), k5 _ _ (by omega)]; exact hM2.2.1) (by rw [rd4 _ _ (by omega)]; exact k1) (by rw [rd4 _ _ (by omega)]; exact k2) (by rw [rd4 _ _ (by omega)]; exact k3) (fun k hk => ?_) (fun i j hi hj => by rw [rd4 _ _ (by omega)]; exact k4 i j hi hj) (fun k j hk => by rw [rd4 _ _ (by omega), k5 _ _ (by omega)]) _ (fun σ5 hM5 f5 g5 => ⟨rfl, _, hw', ?_, ?_, ?_, hM5⟩)
  · rw [show 8 * aN0 a + k = 8 * aN0 a by omega, e4, rd_s, rd_o (by omega), rd_s]
    exact ⟨rfl, rfl⟩
  · have fr : Fr frS σ2 σ5 := fun k j hk => by
      rw [f5 k j (fun q => hk (frM_S k j q)), rd4 _ _ (fun q => hk (by unfold frS; omega)), k5 _ _ (fun q => hk (by unfold frS; omega))]
    exact hX2.fr hw' fr
  · have z : ∀ j, σ5.1 0 j = σ2.1 0 j := fun j => by rw [f5 0 j (by unfold frM; omega), rd4 _ _ (by omega), k5 _ _ (by omega)]
    exact XK.no (by rw [z]; exact hK2.1) (by rw [z]; exact hK2.2.1) (by rw [z]; exact hK2.2.2)
  · refine (show XF (a 11) _ from hF2.fr (fun k j hk => ?_))
    rw [f5 k j (by unfold frM; omega), rd4 _ _ (by omega), k5 _ _ (by omega)]
