/-! print: the step -/
theorem core_11 (a : Ab) (f : Nat → Nat → Nat) : core (fun c i j => if c = 11 then f i j else a c i j) = core a := by
  funext c i j
  unfold core
  by_cases h1 : c = 0 ∧ i = 1
  · rw [if_pos h1, if_pos h1]
  · rw [if_neg h1, if_neg h1]
    by_cases h9 : 9 ≤ c
    · rw [if_pos h9, if_pos h9]
    · rw [if_neg h9, if_neg h9]
      show (if c = 11 then f i j else a c i j) = a c i j
      rw [if_neg (by omega)]
theorem sh12 : ∀ i, i < 13 → (1 : Int32) <<< (nI i &&& 31) = nI (2 ^ i) := by decide +kernel
set_option maxHeartbeats 2000000 in
theorem step_print (d : Nat) (x : Int32) (σ : tk_S) (hR : Rel σ) : p_X7_print (d + 31) [aN 0, aI x] σ (fun r σ1 => p_X8_print (d + 31) [aN 132, aI x] σ1 (fun r' σ2 => r = r' ∧ Rel σ2)) := by
  obtain ⟨a, hw, hX, hK, hF, hM⟩ := id hR
  have hn12 := hw.1
  have hp12 : 2 ^ aN0 a ≤ 2 ^ 12 := Nat.pow_le_pow_right (by omega) hn12
  have hp0 : 0 < 2 ^ aN0 a := Nat.two_pow_pos _
  have no : (¬ ∃ S : Nat, S < 2 ^ aN0 a ∧ x = nI S) → p_X8_print (d + 31) [aN 132, aI x] σ (fun r' σ2 => -1 = r' ∧ Rel σ2) := by
    intro hq
    refine e_X8_print (d + 31) _ (b_X8_print_0 (d + 30) _ σ _ ?_)
    have ep : ((1 : Int32) <<< (nI (aN0 a) &&& 31)) - 1 = nI (2 ^ aN0 a - 1) := by
      have t : ∀ i, i < 13 → ((1 : Int32) <<< (nI i &&& 31)) - 1 = nI (2 ^ i - 1) := by decide +kernel
      exact t _ (by omega)
    rw [hM.1, ep]
    exact s_X8_isInN (d + 30) _ 0 (2 ^ aN0 a - 1) (by omega) (by omega) σ _ (fun S _ h2 e => absurd ⟨S, by omega, e⟩ hq) (fun _ => ⟨fun z => absurd rfl z, fun _ => ⟨rfl, hR⟩⟩)
  refine e_X7_print (d + 31) _ (b_X7_print_0 (d + 30) _ σ _ ?_)
  rw [hX.1, sh12 _ (by omega)]
  refine ⟨fun q => no (fun ⟨S, s1, s2⟩ => ?_), fun q => ⟨fun q2 => ?_, fun q2 => no (fun ⟨S, s1, s2⟩ => ?_)⟩⟩
  · rw [s2] at q; exact nI_pos (by omega) q
  · obtain ⟨S, hS, rfl⟩ : ∃ S : Nat, S < 2 ^ aN0 a ∧ x = nI S := by
      obtain ⟨S, s1, s2⟩ := nI_of q
      rw [s2, lt_nI s1 (by omega)] at q2
      exact ⟨S, q2, s2⟩
    refine s_X7_weave d a hw σ hX hK _ (fun σ1 f1 x1 t1 hK1 => ?_)
    obtain ⟨hX1, hF1, hM1⟩ := relV hw hX hF hM f1
    refine s_X2_clear (d + 30) 52 rfl σ1 _ ?_
    have L := up_loop (fun i => ∀ σ2, Fr (frK 53) σ1 σ2 → σ2.2 = σ1.2 → xrow σ2 53 (upS a S i) → g_X7_print (d + 31) 29 [(0, aN 0), (1, aI (nI S)), (2, aI (nI i))] σ2 (fun r σ1 => p_X8_print (d + 31) [aN 132, aI (nI S)] σ1 (fun r' σ2 => r = r' ∧ Rel σ2))) (aN0 a) ?_ ?_
    · refine L _ (Fr.fill σ1 _ (fun j => rfl)) rfl (fun x y hy => ?_)
      rw [tk_fill_s]
      show bt (if y < 24 then 0 else σ1.1 53 y) x = _
      rw [if_pos hy, b_0]; exact (pB_f.mpr (fun v => upS_0 a S x y v.2)).symm
    · intro σ2 f2 g2 r2
      have c2 : σ2.1 0 1 = nI (aN0 a) := by rw [f2 _ _ (by unfold frK; omega)]; exact hX1.1
      refine b_X7_print_29 (d + 30) _ _ σ2 _ ⟨fun _ => ?_, fun z => absurd (by rw [c2]; exact (le_nI (by omega) (by omega)).mpr (Nat.le_refl _)) z⟩
      refine s_feel (d + 26) (upN a S) (thing_12 hw S) σ2 (r2.c (fun x y _ _ => upN_P.symm)) _ (fun σ3 f3 g3 xf3 => ?_)
      have r3 : xrow σ3 53 (upS a S (aN0 a)) := fun x y hy => by rw [f3 _ _ (by omega)]; exact r2 x y hy
      refine s_X2_size (d + 29) 52 rfl _ σ3 r3 _ ?_
      have rd3 : ∀ k j, ¬ (53 ≤ k ∧ k ≤ 71) → σ3.1 k j = σ1.1 k j := fun k j hk => by rw [f3 k j (by omega), f2 k j (by unfold frK; omega)]
      have hM3 : MI a σ3 := hM1.fr (fun k j hk => rd3 k j (by have hk : ¬ k < 132 := hk; omega))
      refine s_X8_print (d + 28) a hw σ3 hM3 S hS _ (fun σ4 f4 g4 u4 => ⟨rfl, fun c i j => if c = 11 then upN a S i j else a c i j, ?_, ?_, ?_, ?_, ?_⟩)
      · obtain ⟨w0, w1, w2, w3, w4, w5, w6, w7, w8, w9, w10⟩ := hw
        exact ⟨w0, w1, w2, w3, w4, w5, w6, w7, w8, w9, fun x y _ _ => bn_le _⟩
      · have rd : ∀ k j, ¬ ((53 ≤ k ∧ k ≤ 71) ∨ 132 ≤ k) → σ4.1 k j = σ1.1 k j := fun k j hk => by rw [f4 k j (by unfold fr10; omega), rd3 k j (by omega)]
        obtain ⟨j0, j1, j2, j3, j4, j6, j7, j8, j9, j10⟩ := hX1
        refine ⟨by rw [rd _ _ (by omega)]; exact j0, by rw [rd _ _ (by omega)]; exact j1, by rw [rd _ _ (by omega)]; exact j2, fun k hk => ?_, fun i hi => ?_, fun i j hi => ?_, fun s t hs => ?_, fun t ht => ?_, fun i j hi hj => ?_, fun x y hy => ?_⟩
        · rw [rd _ _ (by omega), rd _ _ (by omega)]; exact j3 k hk
        · have hi : i < aN0 a := hi
          exact XIs.keep (j4 i hi) (fun k j h1 h2 => rd k j (by omega))
        · rw [rd _ _ (by omega)]; exact j6 i j hi
        · rw [rd _ _ (by omega)]; exact j7 s t hs
        · rw [rd _ _ (by omega)]; exact j8 t ht
        · have hi : i < aN0 a := hi
          have hj : j < aN0 a := hj
          rw [rd _ _ (by omega)]; exact j9 i j hi hj
        · rw [f4 _ _ (by unfold fr10; omega), r3 x y hy]
          show _ = decide (x < 24 ∧ upN a S x y = 1)
          rw [← Bool.decide_coe (pB _)]
          refine decide_eq_decide.mpr ?_
          rw [pB_t]
          unfold upN
          rw [bn_1, pB_t]
          exact ⟨fun v => ⟨v.1, v.1, hy, v.2⟩, fun v => ⟨v.1, v.2.2.2⟩⟩
      · rw [core_11]
        refine hK1.fr (fun k j hk => ?_) (g4.trans (g3.trans g2))
        rw [f4 k j (by unfold fr10; omega), rd3 k j (by omega)]
      · exact (show XF (upN a S) σ4 from xf3.fr (fun k j hk => f4 k j (by unfold fr10; omega)))
      · have rd : ∀ k j, (k = 132 ∧ j < 20) ∨ (133 ≤ k ∧ k < 144) → σ4.1 k j = σ3.1 k j := fun k j hk => f4 k j (by unfold fr10; omega)
        obtain ⟨h0, h1, h2, h3, h4, h5, h6, h7, h8⟩ := hM3
        refine ⟨by rw [rd _ _ (by omega)]; exact h0, by rw [rd _ _ (by omega)]; exact h1, by rw [rd _ _ (by omega)]; exact h2, fun k hk => ?_, fun i hi => ?_, fun i j hi hj => ?_, fun s t hs ht => ?_, fun t ht => ?_, fun x y hx hy => ?_⟩
        · rw [rd _ _ (by omega), rd _ _ (by omega)]; exact h3 k hk
        · have hi : i < aN0 a := hi
          exact MIs.keep (h4 i hi) (fun k j h1 h2 => rd k j (by omega))
        · rw [rd _ _ (by omega)]; exact h5 i j hi hj
        · rw [rd _ _ (by omega)]; exact h6 s t hs ht
        · rw [rd _ _ (by omega)]; exact h7 t ht
        · obtain ⟨i1, i2, i3⟩ := pin_ix hx hy
          rw [u4 _ i3, i1, i2]
          show _ = nI (upN a S x y)
          unfold upN
          rw [← b2i_bn]
          congr 1
          exact pB_c ⟨fun v => ⟨hx, hy, v⟩, fun v => v.2.2⟩
    · intro i hi ih σ2 f2 g2 r2
      have c2 : σ2.1 0 1 = nI (aN0 a) := by rw [f2 _ _ (by unfold frK; omega)]; exact hX1.1
      refine b_X7_print_29 (d + 30) _ _ σ2 _ ⟨fun z => absurd ((le_nI (n := aN0 a) (k := i) (by omega) (by omega)).mp (by rw [c2] at z; exact z)) (by omega), fun _ => ?_⟩
      refine s_X7_has (d + 30) _ (by omega) σ2 _ ?_
      rw [bt_nI _ (by omega), nI_1, nI_clamp (by omega)]
      refine ⟨fun z => ih σ2 f2 g2 (r2.c (fun x y _ _ => (upS_n (b2i_0.mp z)).symm)), fun z => ⟨vp_in_nI (by omega) (by omega), ?_⟩⟩
      have z := b2i_n.mp z
      refine s_textureOf (d + 29) a hw σ2 (by rw [f2 _ _ (by unfold frK; omega)]; exact x1) (by rw [g2]; exact t1) hi _ (fun r hr => ?_)
      have hXi : XIs a σ2 i := XIs.keep (hX1.2.2.2.2.1 i hi) (fun k j h1 h2 => f2 k j (by unfold frK; omega))
      refine s_press (d + 29) a i (by omega) (hw.2.2.2.2.2.1 i hi) σ2 hXi r _ r2 _ (fun σ3 f3 g3 r3 => ih σ3 (f2.tr f3) (g3.trans g2) (r3.c (fun x y _ _ => (upS_s hi z hr).symm)))
  · refine q2 ?_
    rw [s2, lt_nI (by omega) (by omega)]; exact s1
