/-! the steps meet, undo, look, pin, up -/
theorem me_at (a : Ab) (s t v s' t' : Nat) : aMe (up3 (up3 a 6 s t v) 6 t s v) s' t' = if (s' = t ∧ t' = s) ∨ (s' = s ∧ t' = t) then v else aMe a s' t' := by
  simp only [up3, true_and]
  by_cases h1 : s' = t ∧ t' = s
  · simp [h1]
  · by_cases h2 : s' = s ∧ t' = t
    · simp [h1, h2]
    · simp [h1, h2]
theorem flip_m {n i j m k : Nat} {b : Bool} (hi : i < n) (hj : j < n) (hm : m ≤ 1) (hv : m ≠ bn b) : (decide (i < n ∧ j < n ∧ m = 1) ^^ decide (k = k)) = decide (i < n ∧ j < n ∧ bn b = 1) := by
  have h := flip_b (P := i < n ∧ j < n) ⟨hi, hj⟩ (k := k) hm hv
  simpa [and_assoc] using h
set_option maxHeartbeats 2000000 in
theorem step_meet (d : Nat) (x y : Int32) (b : Bool) (σ : tk_S) (hR : Rel σ) : p_X7_meet (d + 1) [aN 0, aI x, aI y, aI (b2i b)] σ (fun r σ1 => p_X8_meet (d + 2) [aN 132, aI x, aI y, aI (b2i b)] σ1 (fun r' σ2 => r = r' ∧ Rel σ2)) := by
  obtain ⟨a, hw, hX, hK, hF, hM⟩ := id hR
  have hn12 : aN0 a ≤ 12 := hw.1
  have no : (¬ ∃ s t : Nat, s < aN0 a ∧ t < aN0 a ∧ x = nI s ∧ y = nI t ∧ s ≠ t ∧ aMe a s t ≠ bn b) → p_X8_meet (d + 2) [aN 132, aI x, aI y, aI (b2i b)] σ (fun r' σ2 => 0 = r' ∧ Rel σ2) := by
    intro hn
    refine e_X8_meet (d + 2) x y (b2i b) (b_X8_meet_0 (d + 1) x y (b2i b) σ _ ?_)
    refine s_X8_isShape d x hn12 σ hM.1 _ (fun s hs es => ⟨fun c => absurd c (by decide), fun _ => ?_⟩) (fun _ => ⟨fun _ => ⟨rfl, hR⟩, fun c => absurd rfl c⟩)
    refine s_X8_isShape d y hn12 σ hM.1 _ (fun t ht et => ⟨fun c => absurd c (by decide), fun _ => ⟨fun _ => ⟨rfl, hR⟩, fun cst => ?_⟩⟩) (fun _ => ⟨fun _ => ⟨rfl, hR⟩, fun c => absurd rfl c⟩)
    subst es; subst et
    rw [ix12, nI_clamp (by omega), hM.2.2.2.2.2.1 s t hs ht, b2i_bn]
    refine ⟨vp_in_nI (by omega) (by omega), fun c => ?_, fun _ => ⟨rfl, hR⟩⟩
    exact absurd ⟨s, t, hs, ht, rfl, rfl, fun q => cst (by rw [q]), fun q => c (by rw [q])⟩ hn
  refine e_X7_meet (d + 1) x y (b2i b) (b_X7_meet_0 d x y (b2i b) σ _ ?_)
  refine s_X7_isShape d x hn12 σ hX.1 _ (fun s hs es => ⟨fun c => absurd c (by decide), fun _ => ?_⟩) (fun hn => ⟨fun _ => no (fun ⟨s, t, h1, _, h2, _⟩ => hn ⟨s, h1, h2⟩), fun c => absurd rfl c⟩)
  refine s_X7_isShape d y hn12 σ hX.1 _ (fun t ht et => ⟨fun c => absurd c (by decide), fun _ => ⟨fun c => no ?_, fun cst => ?_⟩⟩) (fun hn => ⟨fun _ => no (fun ⟨s, t, _, h1, _, h2, _⟩ => hn ⟨t, h1, h2⟩), fun c => absurd rfl c⟩)
  · rintro ⟨s', t', h1, h2, h3, h4, h5, _⟩
    exact h5 ((nI_eq (by omega) (by omega)).mp (by rw [← h3, ← h4]; exact c))
  subst es; subst et
  have hst : s ≠ t := fun q => cst (by rw [q])
  rw [nI_clamp (by omega), nI_clamp (by omega)]
  refine ⟨vp_in_nI (by omega) (by omega), s_X7_has d _ (by omega) σ _ ?_⟩
  have hb := hX.2.2.2.2.2.1 s t (by omega)
  have hle := (hw.2.2.2.2.2.2.1 s t hs ht).1
  rw [hb]
  refine ⟨fun c => ?_, fun c => no ?_⟩
  · have hv : aMe a s t ≠ bn b := by
      intro q
      apply c
      cases b
      · rw [decide_eq_false (by rw [q]; simp [bn])]
      · rw [decide_eq_true ⟨hs, ht, by rw [q]; rfl⟩]
    refine ⟨vp_in_nI (by omega) (by omega), vp_in_nI (by omega) (by omega), vp_in_nI (by omega) (by omega), vp_in_nI (by omega) (by omega), fun σ9 e8 => s_X7_forget d _ _ ?_⟩
    rw [rd_o (k := 4) (by omega)] at e8
    generalize e9 : tk_up (tk_up (tk_up σ9 0 14 0) 0 15 0) 0 16 0 = τ
    have e9 : fgt σ9 = τ := e9
    have rdx : ∀ k j, ¬ ((k = 0 ∧ 14 ≤ j) ∨ (k = 4 ∧ (j = s ∨ j = t))) → τ.1 k j = σ.1 k j := fun k j h => by rw [← e9, fgt_o _ (by omega), e8, rd_o (by omega), rd_o (by omega)]
    have hMt : MI a τ := hM.fr (fun k j h => rdx k j (fun q => h (by show k < 132; omega)))
    refine e_X8_meet (d + 2) _ _ _ (b_X8_meet_0 (d + 1) _ _ _ τ _ ?_)
    refine s_X8_isShape d _ hn12 τ hMt.1 _ (fun _ _ _ => ⟨fun c => absurd c (by decide), fun _ => ?_⟩) (fun hn => absurd ⟨s, hs, rfl⟩ hn)
    refine s_X8_isShape d _ hn12 τ hMt.1 _ (fun _ _ _ => ⟨fun c => absurd c (by decide), fun _ => ⟨fun c => absurd c cst, fun _ => ?_⟩⟩) (fun hn => absurd ⟨t, ht, rfl⟩ hn)
    rw [ix12, ix12, nI_clamp (by omega), nI_clamp (by omega), hMt.2.2.2.2.2.1 s t hs ht]
    refine ⟨vp_in_nI (by omega) (by omega), fun _ => ⟨vp_in_nI (by omega) (by omega), b2i_vp b, vp_in_nI (by omega) (by omega), b2i_vp b, fun τ8 e7 => ?_⟩, fun c => absurd ((nI_eq (by omega) (by have := bn_le b; omega)).mp (c.trans (b2i_bn b))) hv⟩
    have rd : ∀ k j, ¬ (k = 141 ∧ (j = 12 * s + t ∨ j = 12 * t + s)) → τ8.1 k j = τ.1 k j := fun k j h => by rw [e7, rd_o (by omega), rd_o (by omega)]
    have rd2 : ∀ k j, ¬ ((k = 0 ∧ 14 ≤ j) ∨ (k = 4 ∧ (j = s ∨ j = t)) ∨ (k = 141 ∧ (j = 12 * s + t ∨ j = 12 * t + s))) → τ8.1 k j = σ.1 k j := fun k j h => (rd k j (by omega)).trans (rdx k j (by omega))
    obtain ⟨v, ev⟩ : ∃ v, v = bn b := ⟨_, rfl⟩
    have hw' : WF (up3 (up3 a 6 s t v) 6 t s v) := by
      obtain ⟨w0, w1, w2, w3, w4, w5, w6, w7, w8, w9, w10⟩ := hw
      refine ⟨w0, w1, w2, w3, w4, w5, fun s' t' hs' ht' => ?_, w7, w8, w9, w10⟩
      rw [me_at, me_at]
      have hvl := bn_le b
      by_cases e : (s' = t ∧ t' = s) ∨ (s' = s ∧ t' = t)
      · rw [if_pos e, if_pos (by omega)]; omega
      · rw [if_neg e, if_neg (by omega)]; exact w6 s' t' hs' ht'
    refine ⟨rfl, up3 (up3 a 6 s t v) 6 t s v, hw', ?_, ?_, ?_, ?_⟩
    · obtain ⟨g0, g1, g2, g3, g4, g5, g6, g7, g8, g9⟩ := hX
      have hN : aN0 (up3 (up3 a 6 s t v) 6 t s v) ≤ 12 := hw'.1
      exact ⟨(by rw [rd2 _ _ (by omega)]; exact g0), (by rw [rd2 _ _ (by omega)]; exact g1), (by rw [rd2 _ _ (by omega)]; exact g2), fun k hk => (by rw [rd2 _ _ (by omega), rd2 _ _ (by omega)]; exact g3 k hk), fun i' hi' => (XIs.keep (g4 i' hi') (fun k j h1 h2 => rd2 k j (by omega))), fun i' j' hi' => (by
          rw [me_at]
          show _ = decide (i' < aN0 a ∧ j' < aN0 a ∧ _)
          by_cases e1 : i' = s
          · subst e1
            rw [rd _ _ (by omega), ← e9, fgt_o _ (by omega), e8, rd_o (by omega), rd_s, b_xor, bt_1 (by omega), g5 _ _ hi']
            by_cases e2 : j' = t
            · subst e2
              rw [if_pos (by omega), ev]
              exact flip_m hs ht hle hv
            · rw [if_neg (by omega), decide_eq_false (p := j' = t) e2, Bool.xor_false]; exact decide_eq_decide.mpr Iff.rfl
          · by_cases e3 : i' = t
            · subst e3
              rw [rd _ _ (by omega), ← e9, fgt_o _ (by omega), e8, rd_s, b_xor, bt_1 (by omega), g5 _ _ hi']
              by_cases e2 : j' = s
              · subst e2
                rw [if_pos (by omega), ev]
                have hsy := (hw.2.2.2.2.2.2.1 j' i' hs ht).2
                exact flip_m ht hs (by omega) (by omega)
              · rw [if_neg (by omega), decide_eq_false (p := j' = s) e2, Bool.xor_false]; exact decide_eq_decide.mpr Iff.rfl
            · rw [if_neg (by omega), rd2 _ _ (by omega)]; exact g5 i' j' hi'), fun s t hs => (by rw [rd2 _ _ (by omega)]; exact g6 s t hs), fun t ht => (by rw [rd2 _ _ (by omega)]; exact g7 t ht), fun i' j' hi' hj' => (by rw [rd2 _ _ (by omega)]; exact g8 i' j' hi' hj'), fun x' y' hy' => (by rw [rd2 _ _ (by omega)]; exact g9 x' y' hy')⟩
    · exact fgt_K _ σ9 _ (fun j => by rw [rd _ _ (by omega), e9])
    · exact hF.fr (fun k j hk => rd2 k j (by omega))
    · obtain ⟨m0, m1, m2, m3, m4, m5, m6, m7, m8⟩ := hMt
      have hN : aN0 (up3 (up3 a 6 s t v) 6 t s v) ≤ 12 := hw'.1
      exact ⟨(by rw [rd _ _ (by omega)]; exact m0), (by rw [rd _ _ (by omega)]; exact m1), (by rw [rd _ _ (by omega)]; exact m2), fun k hk => (by rw [rd _ _ (by omega), rd _ _ (by omega)]; exact m3 k hk), fun i' hi' => (MIs.keep (m4 i' hi') (fun k j h1 h2 => rd k j (by omega))), fun i' j' hi' hj' => (by
          have hi' : i' < aN0 a := hi'
          have hj' : j' < aN0 a := hj'
          rw [me_at]
          by_cases e : (i' = t ∧ j' = s) ∨ (i' = s ∧ j' = t)
          · rw [if_pos e, ev, ← b2i_bn, e7]
            by_cases e4 : 12 * i' + j' = 12 * t + s
            · rw [e4, rd_s]
            · rw [rd_o (by omega), show 12 * i' + j' = 12 * s + t by omega, rd_s]
          · rw [if_neg e, rd _ _ (by omega)]; exact m5 i' j' hi' hj'), fun s t hs ht => (by rw [rd _ _ (by omega)]; exact m6 s t hs ht), fun t ht => (by rw [rd _ _ (by omega)]; exact m7 t ht), fun x' y' hx' hy' => (by rw [rd _ _ (by omega)]; exact m8 x' y' hx' hy')⟩
  · rintro ⟨s', t', h1, h2, h3, h4, h5, h6⟩
    have e3 : s' = s := ((nI_eq (by omega) (by omega)).mp h3).symm
    have e4 : t' = t := ((nI_eq (by omega) (by omega)).mp h4).symm
    subst e3; subst e4
    apply h6
    cases b
    · have hd := b2i_0.mp c
      have hne : ¬ aMe a s' t' = 1 := fun q => by rw [decide_eq_true ⟨h1, h2, q⟩] at hd; cases hd
      show aMe a s' t' = 0
      omega
    · have hd : decide (s' < aN0 a ∧ t' < aN0 a ∧ aMe a s' t' = 1) = true := by
        rcases Bool.eq_false_or_eq_true (decide (s' < aN0 a ∧ t' < aN0 a ∧ aMe a s' t' = 1)) with q | q
        · exact q
        · rw [q] at c; cases c
      exact (of_decide_eq_true hd).2.2

set_option maxHeartbeats 2000000 in
theorem step_undo (d : Nat) (σ : tk_S) (hR : Rel σ) : p_X7_undo (d + 1) [aN 0] σ (fun r σ1 => p_X8_undo (d + 1) [aN 132] σ1 (fun r' σ2 => r = r' ∧ Rel σ2)) := by
  obtain ⟨a, hw, hX, hK, hF, hM⟩ := id hR
  have hn12 : aN0 a ≤ 12 := hw.1
  refine e_X7_undo (d + 1) (b_X7_undo_0 d σ _ ?_)
  rw [hX.1]
  refine ⟨fun c => ?_, fun c => ?_⟩
  · have hn1 : 0 < aN0 a := by
      rcases Nat.eq_zero_or_pos (aN0 a) with q | q
      · rw [q] at c; exact absurd rfl c
      · exact q
    obtain ⟨n, hn⟩ : ∃ n, aN0 a = n + 1 := ⟨aN0 a - 1, by omega⟩
    rw [hn, nI_pred, rd_s, nI_clamp (by omega)]
    refine ⟨vp_in_nI (by omega) (by omega), fun σ3 e3 => ?_⟩
    have c3 : σ3.1 0 1 = nI n := by rw [e3, rd_o (by omega), rd_s]
    have L := up_loop (fun j => g_X7_undo (d + 1) 31 [(0, aN 0), (1, aI (nI j))] (tk_fill σ3 4 j (fun i => σ3.1 4 i &&& (((1 : Int32) <<< (nI n &&& 31)) ^^^ (-1)))) (fun r σ1 => p_X8_undo (d + 1) [aN 132] σ1 (fun r' σ2 => r = r' ∧ Rel σ2))) n ?_ ?_
    · rw [tk_fill_0] at L
      exact L
    · refine b_X7_undo_31 d _ _ _ ⟨fun _ => s_X7_forget d _ _ ?_, fun c => absurd ?_ c⟩
      · generalize e9 : tk_up (tk_up (tk_up (tk_fill σ3 4 n (fun i => σ3.1 4 i &&& (((1 : Int32) <<< (nI n &&& 31)) ^^^ (-1)))) 0 14 0) 0 15 0) 0 16 0 = τ
        have e9 : fgt (tk_fill σ3 4 n (fun i => σ3.1 4 i &&& (((1 : Int32) <<< (nI n &&& 31)) ^^^ (-1)))) = τ := e9
        have rdx : ∀ k j, ¬ ((k = 0 ∧ (j = 1 ∨ 14 ≤ j)) ∨ k = 4) → τ.1 k j = σ.1 k j := fun k j h => by
          rw [← e9, fgt_o _ (by omega), tk_fill_o _ _ _ (by omega), e3, rd_o (by omega), rd_o (by omega)]
        have hMt : MI a τ := hM.fr (fun k j h => rdx k j (fun q => h (by show k < 132; omega)))
        refine e_X8_undo (d + 1) (b_X8_undo_0 (d + 1) τ _ ⟨fun _ => ?_, fun c => absurd (hMt.1.symm.trans c) (by rw [hn]; exact nI_ne0 (by omega) (by omega))⟩)
        rw [hMt.1, hn, nI_pred]
        have rd : ∀ k j, ¬ (k = 132 ∧ j = 0) → (tk_up τ 132 0 (nI n)).1 k j = τ.1 k j := fun k j h => rd_o h
        have rd2 : ∀ k j, ¬ ((k = 0 ∧ (j = 1 ∨ 14 ≤ j)) ∨ k = 4 ∨ (k = 132 ∧ j = 0)) → (tk_up τ 132 0 (nI n)).1 k j = σ.1 k j := fun k j h => (rd k j (by omega)).trans (rdx k j (by omega))
        have en : aN0 (up3 a 0 0 0 n) = n := rfl
        have hw' : WF (up3 a 0 0 0 n) := by
          obtain ⟨w0, w1, w2, w3, w4, w5, w6, w7, w8, w9, w10⟩ := hw
          exact ⟨by omega, w1, w2, w3, w4, fun i hi => w5 i (by omega), fun i j hi hj => w6 i j (by omega) (by omega), w7, w8, w9, w10⟩
        refine ⟨rfl, up3 a 0 0 0 n, hw', ?_, ?_, ?_, ?_⟩
        · obtain ⟨g0, g1, g2, g3, g4, g5, g6, g7, g8, g9⟩ := hX
          have hN : aN0 (up3 a 0 0 0 n) ≤ 12 := hw'.1
          exact ⟨(by rw [rd _ _ (by omega), ← e9, fgt_o _ (by omega), tk_fill_o _ _ _ (by omega)]; exact c3), (by rw [rd2 _ _ (by omega)]; exact g1), (by rw [rd2 _ _ (by omega)]; exact g2), fun k hk => (by rw [rd2 _ _ (by omega), rd2 _ _ (by omega)]; exact g3 k hk), fun i' hi' => (XIs.keep (g4 i' (by omega)) (fun k j h1 h2 => rd2 k j (by omega))), fun i' j' hi' => (by
                  rw [rd _ _ (by omega), ← e9, fgt_o _ (by omega), tk_fill_s]
                  show _ = decide (i' < n ∧ j' < n ∧ aMe a i' j' = 1)
                  by_cases h : i' < n
                  · simp only [h, if_true, true_and]
                    have e4 : σ3.1 4 i' = σ.1 4 i' := by rw [e3, rd_o (by omega), rd_o (by omega)]
                    by_cases hj : j' < 32
                    · rw [b_and, bt_not _ hj, bt_1 (by omega), e4, g5 i' j' hi', hn]
                      by_cases hj2 : j' = n
                      · simp [hj2]
                      · have : j' < n + 1 ↔ j' < n := by omega
                        simp [hj2, this, show i' < n + 1 by omega]
                    · rw [b_big (by omega)]
                      exact (decide_eq_false (by omega)).symm
                  · simp only [h, if_false, false_and, decide_false]
                    by_cases h2 : i' = n
                    · rw [h2, e3, rd_s, b_0]
                    · rw [e3, rd_o (by omega), rd_o (by omega), g5 i' j' hi']
                      exact decide_eq_false (by omega)), fun s t hs => (by rw [rd2 _ _ (by omega)]; exact g6 s t hs), fun t ht => (by rw [rd2 _ _ (by omega)]; exact g7 t ht), fun i' j' hi' hj' => (by rw [rd2 _ _ (by omega)]; exact g8 i' j' (by omega) (by omega)), fun x' y' hy' => (by rw [rd2 _ _ (by omega)]; exact g9 x' y' hy')⟩
        · exact fgt_K _ _ _ (fun j => by rw [rd_o (by omega), ← e9])
        · exact hF.fr (fun k j hk => rd2 k j (by omega))
        · obtain ⟨m0, m1, m2, m3, m4, m5, m6, m7, m8⟩ := hMt
          have hN : aN0 (up3 a 0 0 0 n) ≤ 12 := hw'.1
          exact ⟨rd_s, (by rw [rd _ _ (by omega)]; exact m1), (by rw [rd _ _ (by omega)]; exact m2), fun k hk => (by rw [rd _ _ (by omega), rd _ _ (by omega)]; exact m3 k hk), fun i' hi' => (MIs.keep (m4 i' (by omega)) (fun k j h1 h2 => rd k j (by omega))), fun i' j' hi' hj' => (by rw [rd _ _ (by omega)]; exact m5 i' j' (by omega) (by omega)), fun s t hs ht => (by rw [rd _ _ (by omega)]; exact m6 s t hs ht), fun t ht => (by rw [rd _ _ (by omega)]; exact m7 t ht), fun x' y' hx' hy' => (by rw [rd _ _ (by omega)]; exact m8 x' y' hx' hy')⟩
      · rw [tk_fill_o _ _ _ (by omega), c3]
        exact (le_nI (by omega) (by omega)).mpr (Nat.le_refl _)
    · intro j hj ih
      refine b_X7_undo_31 d _ _ _ ⟨fun c => absurd c ?_, fun _ => ⟨vp_in_nI (by omega) (by omega), vp_in_nI (by omega) (by omega), ?_⟩⟩
      · rw [tk_fill_o _ _ _ (by omega), c3]
        exact fun q => absurd ((le_nI (by omega) (by omega)).mp q) (by omega)
      · rw [nI_clamp (by omega), nI_1, tk_fill_up _ _ _ _ (by rw [tk_fill_ge _ _ _ _ (Nat.le_refl j), tk_fill_o _ _ _ (by omega), c3])]
        exact ih
  · refine e_X8_undo (d + 1) (b_X8_undo_0 (d + 1) σ _ ⟨fun c2 => absurd (hM.1.trans c) c2, fun _ => ⟨rfl, hR⟩⟩)

theorem step_look (d : Nat) (x : Int32) (σ : tk_S) (hR : Rel σ) : p_X7_look d [aN 0, aI x] σ (fun r σ1 => p_X8_look d [aN 132, aI x] σ1 (fun r' σ2 => r = r' ∧ Rel σ2)) := by
  obtain ⟨a, hw, hX, hK, hF, hM⟩ := id hR
  have m : ∀ r, (x = 0 → r = σ.1 132 0) → (x = 1 → r = σ.1 132 1) → (x = 2 → r = σ.1 132 2) → (¬ x = 0 → ¬ x = 1 → ¬ x = 2 → r = -1) → p_X8_look d [aN 132, aI x] σ (fun r' σ2 => r = r' ∧ Rel σ2) := fun r h0 h1 h2 h3 =>
    e_X8_look d x (b_X8_look_0 d x σ _ ⟨fun c0 => ⟨fun c1 => ⟨fun c2 => ⟨h3 c0 c1 c2, hR⟩, fun c2 => ⟨h2 c2, hR⟩⟩, fun c1 => ⟨h1 c1, hR⟩⟩, fun c0 => ⟨h0 c0, hR⟩⟩)
  refine e_X7_look d x (b_X7_look_0 d x σ _ ⟨fun c => ?_, fun c => ?_, fun c => ?_, fun c0 c1 c2 => ?_⟩)
  · exact m _ (fun _ => hX.1.trans hM.1.symm) (fun q => absurd (c.symm.trans q) (by decide)) (fun q => absurd (c.symm.trans q) (by decide)) (fun q => absurd c q)
  · exact m _ (fun q => absurd (c.symm.trans q) (by decide)) (fun _ => hX.2.1.trans hM.2.1.symm) (fun q => absurd (c.symm.trans q) (by decide)) (fun _ q => absurd c q)
  · exact m _ (fun q => absurd (c.symm.trans q) (by decide)) (fun q => absurd (c.symm.trans q) (by decide)) (fun _ => hX.2.2.1.trans hM.2.2.1.symm) (fun _ _ q => absurd c q)
  · exact m _ (fun q => absurd q c0) (fun q => absurd q c1) (fun q => absurd q c2) (fun _ _ _ => rfl)
theorem b2i_dec (b : Bool) (Q : Int32 → Prop) (h : Q (b2i b)) : (b2i b = 0 → Q 0) ∧ (¬ b2i b = 0 → Q 1) := by
  cases b
  · exact ⟨fun _ => h, fun c => absurd rfl c⟩
  · exact ⟨fun c => absurd c (by decide), fun _ => h⟩
set_option maxHeartbeats 1000000 in
theorem step_pin (d : Nat) (i x y : Int32) (σ : tk_S) (hR : Rel σ) : p_X7_pin (d + 2) [aN 0, aI i, aI x, aI y] σ (fun r σ1 => p_X8_pin (d + 2) [aN 132, aI i, aI x, aI y] σ1 (fun r' σ2 => r = r' ∧ Rel σ2)) := by
  obtain ⟨a, hw, hX, hK, hF, hM⟩ := id hR
  have hn12 : aN0 a ≤ 12 := hw.1
  have no : ¬ ((∃ k : Nat, k < aN0 a ∧ i = nI k) ∧ isP x y) → p_X8_pin (d + 2) [aN 132, aI i, aI x, aI y] σ (fun r' σ2 => -1 = r' ∧ Rel σ2) := by
    intro hn
    refine e_X8_pin (d + 2) i x y (b_X8_pin_0 (d + 1) i x y σ _ ?_)
    refine s_X8_isShape d i hn12 σ hM.1 _ (fun k hk ek => ⟨fun c => absurd c (by decide), fun _ => ?_⟩) (fun _ => ⟨fun _ => ⟨rfl, hR⟩, fun c => absurd rfl c⟩)
    exact s_X8_isPin d x y σ _ (fun hp => absurd ⟨⟨k, hk, ek⟩, hp⟩ hn) (fun _ => ⟨fun c => absurd rfl c, fun _ => ⟨rfl, hR⟩⟩)
  refine e_X7_pin (d + 2) i x y (b_X7_pin_0 (d + 1) i x y σ _ ?_)
  refine s_X7_isShape (d + 1) i hn12 σ hX.1 _ (fun k hk ek => ⟨fun c => absurd c (by decide), fun _ => ?_⟩) (fun hn => ⟨fun _ => no (fun q => hn q.1), fun c => absurd rfl c⟩)
  refine s_X7_isPin (d + 1) x y σ _ (fun hp => ⟨fun _ => ?_, fun c => absurd c (by decide)⟩) (fun hn => ⟨fun c => absurd rfl c, fun _ => no (fun q => hn q.2)⟩)
  subst ek
  obtain ⟨u, v, hu, hv, rfl, rfl⟩ := hp
  rw [nI_clamp (by omega)]
  refine ⟨vp_in_nI (by omega) (by omega), s_X2_holds d _ (tk_s3 (tk_shp (by omega))) hu hv σ _ ?_⟩
  have hb := (hX.2.2.2.2.1 k hk).2.2.2.2 u v hv
  rw [show 1 + 71 + 5 * k + 3 + 1 = 72 + 5 * k + 4 by omega, hb]
  refine b2i_dec _ (fun r => p_X8_pin (d + 2) [aN 132, aI (nI k), aI (nI u), aI (nI v)] σ (fun r' σ2 => r = r' ∧ Rel σ2)) ?_
  refine e_X8_pin (d + 2) _ _ _ (b_X8_pin_0 (d + 1) _ _ _ σ _ ?_)
  refine s_X8_isShape d _ hn12 σ hM.1 _ (fun _ _ _ => ⟨fun c => absurd c (by decide), fun _ => ?_⟩) (fun hn => absurd ⟨k, hk, rfl⟩ hn)
  refine s_X8_isPin d _ _ σ _ (fun _ => ⟨fun _ => ?_, fun c => absurd c (by decide)⟩) (fun hn => absurd ⟨u, v, hu, hv, rfl, rfl⟩ hn)
  refine e_X8_has (d + 1) _ _ _ (b_X8_has_0 (d + 1) _ _ _ σ _ ?_)
  rw [ix576, nI_clamp (by omega), (hM.2.2.2.2.1 k hk).2.2.2.2 u v hu hv]
  refine ⟨vp_in_nI (by omega) (by omega), b2i_nar _, ?_⟩
  cases pB (pinP a k u v)
  · exact ⟨fun _ => ⟨rfl, hR⟩, fun c => absurd rfl c⟩
  · exact ⟨fun c => absurd c (by decide), fun _ => ⟨rfl, hR⟩⟩
theorem step_up (d : Nat) (x y : Int32) (σ : tk_S) (hR : Rel σ) : p_X7_up (d + 2) [aN 0, aI x, aI y] σ (fun r σ1 => p_X8_up (d + 2) [aN 132, aI x, aI y] σ1 (fun r' σ2 => r = r' ∧ Rel σ2)) := by
  obtain ⟨a, hw, hX, hK, hF, hM⟩ := id hR
  refine e_X7_up (d + 2) x y (b_X7_up_0 (d + 1) x y σ _ ?_)
  refine s_X7_isPin (d + 1) x y σ _ (fun hp => ⟨fun _ => ?_, fun c => absurd c (by decide)⟩) (fun hn => ⟨fun c => absurd rfl c, fun _ => ?_⟩)
  · obtain ⟨u, v, hu, hv, rfl, rfl⟩ := hp
    refine s_X2_holds d 52 rfl hu hv σ _ ?_
    have hb := hX.2.2.2.2.2.2.2.2.2 u v hv
    show (b2i (bt (σ.1 53 v) u) = 0 → _) ∧ (¬ b2i (bt (σ.1 53 v) u) = 0 → _)
    rw [hb]
    refine b2i_dec _ (fun r => p_X8_up (d + 2) [aN 132, aI (nI u), aI (nI v)] σ (fun r' σ2 => r = r' ∧ Rel σ2)) ?_
    refine e_X8_up (d + 2) _ _ (b_X8_up_0 (d + 1) _ _ σ _ ?_)
    refine s_X8_isPin d _ _ σ _ (fun _ => ⟨fun _ => ?_, fun c => absurd c (by decide)⟩) (fun hn => absurd ⟨u, v, hu, hv, rfl, rfl⟩ hn)
    rw [ix24, nI_clamp (by omega), hM.2.2.2.2.2.2.2.2 u v hu hv]
    have hle := hw.2.2.2.2.2.2.2.2.2.2 u v hu hv
    refine ⟨vp_in_nI (by omega) (by omega), fun c => ⟨?_, hR⟩, fun c => ⟨?_, hR⟩⟩
    · rw [decide_eq_false (fun q => absurd c (by rw [q.2]; decide))]; rfl
    · have h1 : aUp a u v = 1 := by
        rcases Nat.eq_zero_or_pos (aUp a u v) with q | q
        · rw [q] at c; exact absurd rfl c
        · omega
      rw [decide_eq_true ⟨hu, h1⟩]; rfl
  · refine e_X8_up (d + 2) x y (b_X8_up_0 (d + 1) x y σ _ ?_)
    exact s_X8_isPin d _ _ σ _ (fun hp => absurd hp hn) (fun _ => ⟨fun c => absurd rfl c, fun _ => ⟨rfl, hR⟩⟩)
