/-! the steps ground and line -/
set_option maxHeartbeats 2000000 in
theorem step_ground (d : Nat) (x y x' y' z : Int32) (σ : tk_S) (hR : Rel σ) : p_X7_ground (d + 6) [aN 0, aI x, aI y, aI x', aI y', aI z] σ (fun r σ1 => p_X8_ground (d + 5) [aN 132, aI x, aI y, aI x', aI y', aI z] σ1 (fun r' σ2 => r = r' ∧ Rel σ2)) := by
  obtain ⟨a, hw, hX, hK, hF, hM⟩ := id hR
  have hn12 : aN0 a ≤ 12 := hw.1
  have no : ¬ (isP x y ∧ isP x' y' ∧ ¬ x' < x ∧ ¬ y' < y ∧ (∃ i : Nat, 1 ≤ i ∧ i ≤ 9 ∧ z = nI i) ∧ aN0 a < 12) → p_X8_ground (d + 5) [aN 132, aI x, aI y, aI x', aI y', aI z] σ (fun r' σ2 => -1 = r' ∧ Rel σ2) := by
    intro hn
    refine e_X8_ground (d + 5) _ _ _ _ _ (b_X8_ground_0 (d + 4) _ _ _ _ _ σ _ ?_)
    refine s_X8_isPin (d + 3) _ _ σ _ (fun hp => ⟨fun c => absurd c (by decide), fun _ => ?_⟩) (fun _ => ⟨fun _ => ⟨rfl, hR⟩, fun c => absurd rfl c⟩)
    refine s_X8_isPin (d + 3) _ _ σ _ (fun hp2 => ⟨fun c => absurd c (by decide), fun _ => ⟨fun _ => ⟨rfl, hR⟩, fun g1 => ⟨fun _ => ⟨rfl, hR⟩, fun g2 => ?_⟩⟩⟩) (fun _ => ⟨fun _ => ⟨rfl, hR⟩, fun c => absurd rfl c⟩)
    exact s_X8_canCome (d + 3) z hn12 σ hM.1 _ (fun i h1 h2 h3 h4 => absurd ⟨hp, hp2, g1, g2, ⟨i, h1, h2, h3⟩, h4⟩ hn) (fun _ => ⟨fun c => absurd rfl c, fun _ => ⟨rfl, hR⟩⟩)
  refine e_X7_ground (d + 6) _ _ _ _ _ (b_X7_ground_0 (d + 5) _ _ _ _ _ σ _ ?_)
  refine s_X7_isPin (d + 5) _ _ σ _ (fun hp => ⟨fun c => absurd c (by decide), fun _ => ?_⟩) (fun hn => ⟨fun _ => no (fun q => hn q.1), fun c => absurd rfl c⟩)
  refine s_X7_isPin (d + 5) _ _ σ _ (fun hp2 => ⟨fun c => absurd c (by decide), fun _ => ⟨fun c => no (fun q => q.2.2.1 c), fun g1 => ⟨fun c => no (fun q => q.2.2.2.1 c), fun g2 => ?_⟩⟩⟩) (fun hn => ⟨fun _ => no (fun q => hn q.2.1), fun c => absurd rfl c⟩)
  refine s_X7_canAdd (d + 5) z hn12 σ hX.1 _ (fun w h1 h9 ew hn => ⟨fun _ => ?_, fun c => absurd c (by decide)⟩) (fun hn => ⟨fun c => absurd rfl c, fun _ => no (fun q => hn q.2.2.2.2)⟩)
  obtain ⟨u, v, hu, hv, rfl, rfl⟩ := hp
  obtain ⟨u2, v2, hu2, hv2, rfl, rfl⟩ := hp2
  subst ew
  have huu : u ≤ u2 := by
    have : ¬ u2 < u := fun q => g1 ((lt_nI (by omega) (by omega)).mpr q)
    omega
  have hvv : v ≤ v2 := by
    have : ¬ v2 < v := fun q => g2 ((lt_nI (by omega) (by omega)).mpr q)
    omega
  rw [hX.1, nI_clamp (by omega)]
  have hsh := tk_shp (i := aN0 a) hn
  have e72 : 1 + 71 + 5 * aN0 a = 72 + 5 * aN0 a := by omega
  refine ⟨vp_in_nI hn (by omega), s_X3_begin (d + 5) _ hsh _ _ σ _ (s_X3_addPlace (d + 5) _ hsh _ _ 0 (by omega) _ (by rw [rd_s]; rfl) _ (s_X3_addPlace (d + 5) _ hsh _ _ 1 (by omega) _ (by rw [rd_s]) _ ?_))⟩
  rw [e72]
  generalize e1 : tk_up (tk_up (tk_up (tk_up (tk_up (tk_up (tk_up (tk_up (tk_up σ (72 + 5 * aN0 a) 0 1) (72 + 5 * aN0 a) 1 (nI w)) (72 + 5 * aN0 a) 2 0) (72 + 5 * aN0 a + 1) 0 (nI u)) (72 + 5 * aN0 a + 2) 0 (nI v)) (72 + 5 * aN0 a) 2 (nI (0 + 1))) (72 + 5 * aN0 a + 1) 1 (nI u2)) (72 + 5 * aN0 a + 2) 1 (nI v2)) (72 + 5 * aN0 a) 2 (nI (1 + 1)) = σ1
  rw [← e72]
  have rd1 : ∀ k j, ¬ (72 + 5 * aN0 a ≤ k ∧ k ≤ 72 + 5 * aN0 a + 2) → σ1.1 k j = σ.1 k j := fun k j hk => by rw [← e1, rd_o (by omega), rd_o (by omega), rd_o (by omega), rd_o (by omega), rd_o (by omega), rd_o (by omega), rd_o (by omega), rd_o (by omega), rd_o (by omega)]
  have hw' : WF (addS a 1 w 2 (aWn a) (fun k => if k = 0 then u else u2) (fun k => if k = 0 then v else v2)) := addS_WF hw hn (by omega) h1 h9 (by omega) (by omega) (fun k hk => by rcases (show k = 0 ∨ k = 1 by omega) with q | q <;> subst q <;> exact ⟨by simpa, by simpa⟩) (fun _ => ⟨rfl, huu, hvv⟩) (fun q => by omega) (Nat.le_refl _)
  have hJ : XJ (addS a 1 w 2 (aWn a) (fun k => if k = 0 then u else u2) (fun k => if k = 0 then v else v2)) (aN0 a) σ1 := by
    refine XJ_of hX hn (Nat.le_refl _) (fun k j hk => rd1 k j (by omega)) (by rw [rd1 _ _ (by omega)]; exact hX.2.1) ?_ ?_
    · unfold xco
      simp only [addS_ki, addS_nc, addS_x, addS_y]
      refine ⟨?_, ?_, fun j hj => ?_⟩
      · rw [← e1, rd_o (by omega), rd_o (by omega), rd_o (by omega), rd_o (by omega), rd_o (by omega), rd_o (by omega), rd_o (by omega), rd_o (by omega), rd_s]; rfl
      · rw [← e1, rd_s]
      · rcases (show j = 0 ∨ j = 1 by omega) with q | q
        · subst q
          constructor
          · rw [← e1, rd_o (by omega), rd_o (by omega), rd_o (by omega), rd_o (by omega), rd_o (by omega), rd_s]; rfl
          · rw [← e1, rd_o (by omega), rd_o (by omega), rd_o (by omega), rd_o (by omega), rd_s]; rfl
        · subst q
          constructor
          · rw [← e1, rd_o (by omega), rd_o (by omega), rd_s]; rfl
          · rw [← e1, rd_o (by omega), rd_s]; rfl
    · rw [← e1, rd_o (by omega), rd_o (by omega), rd_o (by omega), rd_o (by omega), rd_o (by omega), rd_o (by omega), rd_o (by omega), rd_s]
  refine s_X7_finish d (aN0 a) _ hw' rfl σ1 hJ _ (fun σ2 hX2 hK2 f2 => ?_)
  have hM2 : MI a σ2 := (hM.fr (fun k j hk => rd1 k j (fun q => hk (by show k < 132; omega)))).fr (f2.wk (fun k j q => by have : k < 54 ∨ (72 ≤ k ∧ k < 132) := q; show k < 132; omega))
  have hF2 : XF (a 11) σ2 := (hF.fr (fun k j hk => rd1 k j (by omega))).fr (fun k j hk => f2 k j (fun q => by have : k < 54 ∨ (72 ≤ k ∧ k < 132) := q; omega))
  refine e_X8_ground (d + 5) _ _ _ _ _ (b_X8_ground_0 (d + 4) _ _ _ _ _ σ2 _ ?_)
  refine s_X8_isPin (d + 3) _ _ σ2 _ (fun _ => ⟨fun c => absurd c (by decide), fun _ => ?_⟩) (fun hn => absurd ⟨u, v, hu, hv, rfl, rfl⟩ hn)
  refine s_X8_isPin (d + 3) _ _ σ2 _ (fun _ => ⟨fun c => absurd c (by decide), fun _ => ⟨fun c => absurd c g1, fun _ => ⟨fun c => absurd c g2, fun _ => ?_⟩⟩⟩) (fun hn => absurd ⟨u2, v2, hu2, hv2, rfl, rfl⟩ hn)
  refine s_X8_canCome (d + 3) _ hn12 σ2 hM2.1 _ (fun _ _ _ _ _ => ⟨fun _ => ?_, fun c => absurd c (by decide)⟩) (fun q => absurd ⟨⟨w, h1, h9, rfl⟩, hn⟩ q)
  refine s_X8_comes (d + 4) (aN0 a) hn σ2 hM2.1 _ _ _ _ (fun σ3 k0 k1 k2 k3 k4 k5 => ?_)
  rw [e8, nI_1, nI_clamp (by omega), nI_clamp (by omega)]
  refine ⟨vp_in_nI (by omega) (by omega), vp_in_nI (by omega) (by omega), fun σ20 e20 => ⟨vp_in_nI (by omega) (by omega), vp_in_nI (by omega) (by omega), fun σ4 e4 => ?_⟩⟩
  rw [e20] at e4
  have rd4 : ∀ k j, ¬ ((k = 138 ∨ k = 139) ∧ (j = 8 * aN0 a ∨ j = 8 * aN0 a + 1)) → σ4.1 k j = σ3.1 k j := fun k j hk => by rw [e4, rd_o (by omega), rd_o (by omega), rd_o (by omega), rd_o (by omega)]
  refine s_draw_new d hw' hn (Nat.le_refl _) hM2 (by rw [rd4 _ _ (by omega)]; exact k0) (by rw [rd4 _ _ (by omega), k5 _ _ (by omega)]; exact hM2.2.1) (by rw [rd4 _ _ (by omega)]; exact k1) (by rw [rd4 _ _ (by omega)]; exact k2) (by rw [rd4 _ _ (by omega)]; exact k3) (fun k hk => ?_) (fun i j hi hj => by rw [rd4 _ _ (by omega)]; exact k4 i j hi hj) (fun k j hk => by rw [rd4 _ _ (by omega), k5 _ _ (by omega)]) _ (fun σ5 hM5 f5 g5 => ⟨rfl, _, hw', ?_, ?_, ?_, hM5⟩)
  · rcases (show k = 0 ∨ k = 1 by omega) with q | q
    · subst q
      rw [show 8 * aN0 a + 0 = 8 * aN0 a by omega, e4]
      exact ⟨by rw [rd_o (by omega), rd_o (by omega), rd_o (by omega), rd_s]; rfl, by rw [rd_o (by omega), rd_o (by omega), rd_s]; rfl⟩
    · subst q
      rw [e4]
      exact ⟨by rw [rd_o (by omega), rd_s]; rfl, by rw [rd_s]; rfl⟩
  · have fr : Fr frS σ2 σ5 := fun k j hk => by
      rw [f5 k j (fun q => hk (frM_S k j q)), rd4 _ _ (fun q => hk (by unfold frS; omega)), k5 _ _ (fun q => hk (by unfold frS; omega))]
    exact hX2.fr hw' fr
  · have z : ∀ j, σ5.1 0 j = σ2.1 0 j := fun j => by rw [f5 0 j (by unfold frM; omega), rd4 _ _ (by omega), k5 _ _ (by omega)]
    exact XK.no (by rw [z]; exact hK2.1) (by rw [z]; exact hK2.2.1) (by rw [z]; exact hK2.2.2)
  · refine (show XF (a 11) _ from hF2.fr (fun k j hk => ?_))
    rw [f5 k j (by unfold frM; omega), rd4 _ _ (by omega), k5 _ _ (by omega)]
set_option maxHeartbeats 4000000 in
theorem step_line (d : Nat) (z : Int32) (σ : tk_S) (hR : Rel σ) : p_X7_line (d + 6) [aN 0, aI z] σ (fun r σ1 => p_X8_line (d + 5) [aN 132, aI z] σ1 (fun r' σ2 => r = r' ∧ Rel σ2)) := by
  obtain ⟨a, hw, hX, hK, hF, hM⟩ := id hR
  have hn12 : aN0 a ≤ 12 := hw.1
  have hw8 := hw.2.1
  have no : ¬ (0 < aWn a ∧ (∃ i : Nat, 1 ≤ i ∧ i ≤ 9 ∧ z = nI i) ∧ aN0 a < 12) → p_X8_line (d + 5) [aN 132, aI z] σ (fun r' σ2 => -1 = r' ∧ Rel σ2) := by
    intro hn
    refine e_X8_line (d + 5) _ (b_X8_line_0 (d + 4) _ σ _ ⟨fun _ => ⟨rfl, hR⟩, fun c => ?_⟩)
    have hp : 0 < aWn a := by
      rcases Nat.eq_zero_or_pos (aWn a) with q | q
      · rw [hM.2.1, q] at c; exact absurd rfl c
      · exact q
    exact s_X8_canCome (d + 3) z hn12 σ hM.1 _ (fun i h1 h2 h3 h4 => absurd ⟨hp, ⟨i, h1, h2, h3⟩, h4⟩ hn) (fun _ => ⟨fun c => absurd rfl c, fun _ => ⟨rfl, hR⟩⟩)
  refine e_X7_line (d + 6) _ (b_X7_line_0 (d + 5) _ σ _ ⟨fun c => no (fun q => ?_), fun c => ?_⟩)
  · rw [hX.2.1] at c
    have := (nI_eq (b := 0) (by omega) (by omega)).mp c
    omega
  have hp : 0 < aWn a := by
    rcases Nat.eq_zero_or_pos (aWn a) with q | q
    · rw [hX.2.1, q] at c; exact absurd rfl c
    · exact q
  refine s_X7_canAdd (d + 5) z hn12 σ hX.1 _ (fun w h1 h9 ew hn => ⟨fun _ => ?_, fun c => absurd c (by decide)⟩) (fun hn => ⟨fun c => absurd rfl c, fun _ => no (fun q => hn q.2)⟩)
  subst ew
  rw [hX.1, nI_clamp (by omega)]
  have hsh := tk_shp (i := aN0 a) hn
  have e72 : 1 + 71 + 5 * aN0 a = 72 + 5 * aN0 a := by omega
  refine ⟨vp_in_nI hn (by omega), s_X3_begin (d + 5) _ hsh _ _ σ _ ?_⟩
  have hw' : WF (addS a 0 w (aWn a) 0 (aWX a) (aWY a)) := addS_WF hw hn (by omega) h1 h9 (by omega) (by omega) (fun k hk => hw.2.2.2.2.1 k hk) (fun q => by omega) (fun q => by omega) (by omega)
  have L := up_loop (fun m => ∀ σ1, (∀ k j, ¬ (72 + 5 * aN0 a ≤ k ∧ k ≤ 72 + 5 * aN0 a + 2) → σ1.1 k j = σ.1 k j) → σ1.1 (72 + 5 * aN0 a) 0 = 0 → σ1.1 (72 + 5 * aN0 a) 1 = nI w → σ1.1 (72 + 5 * aN0 a) 2 = nI m → (∀ k, k < m → σ1.1 (72 + 5 * aN0 a + 1) k = nI (aWX a k) ∧ σ1.1 (72 + 5 * aN0 a + 2) k = nI (aWY a k)) → g_X7_line (d + 6) 35 [(0, aN 0), (2, aN (1 + 71 + 5 * aN0 a)), (3, aI (nI m))] σ1 (fun r σ1 => p_X8_line (d + 5) [aN 132, aI (nI w)] σ1 (fun r' σ2 => r = r' ∧ Rel σ2))) (aWn a) ?_ ?_
  · refine L _ (fun k j hk => by rw [rd_o (by omega), rd_o (by omega), rd_o (by omega)]) (by rw [rd_o (by omega), rd_o (by omega), ← e72, rd_s]) (by rw [rd_o (by omega), ← e72, rd_s]) (by rw [← e72, rd_s]; rfl) (fun k hk => absurd hk (Nat.not_lt_zero k))
  · intro σ0 r0 s0 s1 s2 s3
    refine b_X7_line_35 (d + 5) _ hsh _ σ0 _ ?_
    rw [r0 0 4 (by omega), hX.2.1]
    refine ⟨fun _ => ?_, fun c => absurd ((le_nI (by omega) (by omega)).mpr (Nat.le_refl _)) c⟩
    generalize e1 : tk_up σ0 0 4 0 = σ1
    have rd1 : ∀ k j, ¬ ((72 + 5 * aN0 a ≤ k ∧ k ≤ 72 + 5 * aN0 a + 2) ∨ (k = 0 ∧ j = 4)) → σ1.1 k j = σ.1 k j := fun k j hk => by rw [← e1, rd_o (by omega), r0 _ _ (by omega)]
    have hJ : XJ (addS a 0 w (aWn a) 0 (aWX a) (aWY a)) (aN0 a) σ1 := by
      refine XJ_of hX hn (by omega) rd1 (by rw [← e1, rd_s]; rfl) ?_ (by rw [← e1, rd_o (by omega)]; exact s1)
      unfold xco
      simp only [addS_ki, addS_nc, addS_x, addS_y]
      refine ⟨by rw [← e1, rd_o (by omega)]; exact s0, by rw [← e1, rd_o (by omega)]; exact s2, fun j hj => ?_⟩
      rw [← e1, rd_o (by omega), rd_o (by omega)]
      exact s3 j hj
    refine s_X7_finish d (aN0 a) _ hw' rfl σ1 hJ _ (fun σ2 hX2 hK2 f2 => ?_)
    have hM2 : MI a σ2 := (hM.fr (fun k j hk => rd1 k j (fun q => hk (by show k < 132; omega)))).fr (f2.wk (fun k j q => by have : k < 54 ∨ (72 ≤ k ∧ k < 132) := q; show k < 132; omega))
    have hF2 : XF (a 11) σ2 := (hF.fr (fun k j hk => rd1 k j (by omega))).fr (fun k j hk => f2 k j (fun q => by have : k < 54 ∨ (72 ≤ k ∧ k < 132) := q; omega))
    refine e_X8_line (d + 5) _ (b_X8_line_0 (d + 4) _ σ2 _ ⟨fun c => ?_, fun _ => ?_⟩)
    · rw [hM2.2.1] at c
      have := (nI_eq (b := 0) (by omega) (by omega)).mp c
      omega
    refine s_X8_canCome (d + 3) _ hn12 σ2 hM2.1 _ (fun _ _ _ _ _ => ⟨fun _ => ?_, fun c => absurd c (by decide)⟩) (fun q => absurd ⟨⟨w, h1, h9, rfl⟩, hn⟩ q)
    rw [hM2.2.1]
    refine s_X8_comes (d + 4) (aN0 a) hn σ2 hM2.1 _ _ _ _ (fun σ3 k0 k1 k2 k3 k4 k5 => ?_)
    have L2 := up_loop (fun m => ∀ τ, (∀ k j, ¬ ((k = 138 ∨ k = 139) ∧ 8 * aN0 a ≤ j ∧ j < 8 * aN0 a + 8) → τ.1 k j = σ3.1 k j) → (∀ k, k < m → τ.1 138 (8 * aN0 a + k) = nI (aWX a k) ∧ τ.1 139 (8 * aN0 a + k) = nI (aWY a k)) → g_X8_line (d + 5) 30 [(0, aN 132), (2, aI (nI (aN0 a))), (3, aI (nI m))] τ (fun r' σ2 => nI (aN0 a) = r' ∧ Rel σ2)) (aWn a) ?_ ?_
    · exact L2 σ3 (fun _ _ _ => rfl) (fun k hk => absurd hk (Nat.not_lt_zero k))
    · intro τ rt ct
      refine b_X8_line_30 (d + 4) _ _ τ _ ?_
      rw [rt 132 1 (by omega), k5 132 1 (by omega), hM2.2.1]
      refine ⟨fun _ => ?_, fun c => absurd ((le_nI (by omega) (by omega)).mpr (Nat.le_refl _)) c⟩
      generalize e4 : tk_up τ 132 1 0 = σ4
      have rd4 : ∀ k j, ¬ (((k = 138 ∨ k = 139) ∧ 8 * aN0 a ≤ j ∧ j < 8 * aN0 a + 8) ∨ (k = 132 ∧ j = 1)) → σ4.1 k j = σ3.1 k j := fun k j hk => by rw [← e4, rd_o (by omega), rt _ _ (by omega)]
      refine s_draw_new d hw' hn (by omega) hM2 (by rw [rd4 _ _ (by omega)]; exact k0) (by rw [← e4, rd_s]; rfl) (by rw [rd4 _ _ (by omega)]; exact k1) (by rw [rd4 _ _ (by omega)]; exact k2) (by rw [rd4 _ _ (by omega)]; exact k3) (fun k hk => ?_) (fun i j hi hj => by rw [rd4 _ _ (by omega)]; exact k4 i j hi hj) (fun k j hk => by rw [rd4 _ _ (by omega), k5 _ _ (by omega)]) _ (fun σ5 hM5 f5 g5 => ⟨rfl, _, hw', ?_, ?_, ?_, hM5⟩)
      · rw [← e4, rd_o (by omega), rd_o (by omega)]
        exact ct k hk
      · have fr : Fr frS σ2 σ5 := fun k j hk => by
          rw [f5 k j (fun q => hk (frM_S k j q)), rd4 _ _ (fun q => hk (by unfold frS; omega)), k5 _ _ (fun q => hk (by unfold frS; omega))]
        exact hX2.fr hw' fr
      · have z : ∀ j, σ5.1 0 j = σ2.1 0 j := fun j => by rw [f5 0 j (by unfold frM; omega), rd4 _ _ (by omega), k5 _ _ (by omega)]
        exact XK.no (by rw [z]; exact hK2.1) (by rw [z]; exact hK2.2.1) (by rw [z]; exact hK2.2.2)
      · refine (show XF (a 11) _ from hF2.fr (fun k j hk => ?_))
        rw [f5 k j (by unfold frM; omega), rd4 _ _ (by omega), k5 _ _ (by omega)]
    · intro m hm ih τ rt ct
      have hm3 := hM2.2.2.2.1 m hm
      refine b_X8_line_30 (d + 4) _ _ τ _ ?_
      rw [rt 132 1 (by omega), k5 132 1 (by omega), hM2.2.1]
      refine ⟨fun c => absurd ((le_nI (by omega) (by omega)).mp c) (by omega), fun _ => ?_⟩
      rw [ix8, nI_clamp (n := m) (by omega), nI_clamp (n := 8 * aN0 a + m) (by omega), nI_1]
      refine ⟨vp_in_nI (by omega) (by omega), vp_in_nI (by omega) (by omega), vp_in_nI (by omega) (by omega), vp_in_nI (by omega) (by omega), fun τ8 e8_ => ih τ8 (fun k j hk => ?_) (fun k hk => ?_)⟩
      · rw [e8_, rd_o (by omega), rd_o (by omega)]; exact rt k j hk
      · by_cases e : k = m
        · subst e
          rw [e8_]
          constructor
          · rw [rd_o (by omega), rd_s, rt _ _ (by omega), k5 _ _ (by omega)]; exact hm3.1
          · rw [rd_s, rd_o (by omega), rt _ _ (by omega), k5 _ _ (by omega)]; exact hm3.2
        · rw [e8_, rd_o (by omega), rd_o (by omega), rd_o (by omega), rd_o (by omega)]; exact ct k (by omega)
  · intro m hm ih σ1 r0 s0 s1 s2 s3
    have g3 := hX.2.2.2.1 m hm
    refine b_X7_line_35 (d + 5) _ hsh _ σ1 _ ?_
    rw [r0 0 4 (by omega), hX.2.1]
    refine ⟨fun c => absurd ((le_nI (by omega) (by omega)).mp c) (by omega), fun _ => ⟨vp_in_nI (by omega) (by omega), vp_in_nI (by omega) (by omega), ?_⟩⟩
    rw [nI_clamp (n := m) (by omega), r0 2 m (by omega), r0 3 m (by omega), g3.1, g3.2, nI_1]
    refine s_X3_addPlace (d + 5) _ hsh _ _ m (by omega) σ1 (by rw [e72]; exact s2) _ ?_
    rw [e72]
    refine (show g_X7_line (d + 6) 35 [(0, aN 0), (2, aN (72 + 5 * aN0 a)), (3, aI (nI (m + 1)))] _ _ from ?_)
    rw [← e72]
    refine ih _ (fun k j hk => ?_) ?_ ?_ ?_ (fun k hk => ?_)
    · rw [rd_o (by omega), rd_o (by omega), rd_o (by omega)]; exact r0 k j hk
    · rw [rd_o (by omega), rd_o (by omega), rd_o (by omega)]; exact s0
    · rw [rd_o (by omega), rd_o (by omega), rd_o (by omega)]; exact s1
    · rw [← e72, rd_s]
    · rw [rd_o (by omega), rd_o (k := 72 + 5 * aN0 a + 2) (by omega)]
      by_cases e : k = m
      · subst e
        constructor
        · rw [rd_o (by omega), ← e72, rd_s]
        · rw [← e72, rd_s]
      · rw [rd_o (by omega), rd_o (by omega), rd_o (by omega), rd_o (by omega)]; exact s3 k (by omega)
