/-! calls, the class' and then the reference's: the same answer, and the relation again -/
theorem rd_o {σ : tk_S} {K J : Nat} {x : Int32} {k j : Nat} (h : ¬ (k = K ∧ j = J)) : (tk_up σ K J x).1 k j = σ.1 k j := by rw [tk_up_at, if_neg h]
theorem rd_s {σ : tk_S} {K J : Nat} {x : Int32} : (tk_up σ K J x).1 K J = x := by rw [tk_up_at, if_pos ⟨rfl, rfl⟩]
def addCorner (a : Ab) (i j : Nat) : Ab := up3 (up3 (up3 a 9 (aWn a) 0 i) 10 (aWn a) 0 j) 0 1 0 (aWn a + 1)
theorem addC_x (a : Ab) (i j k : Nat) : aWX (addCorner a i j) k = if k = aWn a then i else aWX a k := by simp [addCorner, up3]
theorem addC_y (a : Ab) (i j k : Nat) : aWY (addCorner a i j) k = if k = aWn a then j else aWY a k := by simp [addCorner, up3]
theorem core_corner (a : Ab) (i j : Nat) : core (addCorner a i j) = core a := by
  funext c i' j'
  unfold core addCorner up3
  by_cases h1 : c = 0
  · subst h1
    by_cases h2 : i' = 1
    · simp [h2]
    · simp [h2]
  · by_cases h9 : 9 ≤ c
    · simp [h9, h1]
    · simp [h1, show ¬ c = 9 by omega, show ¬ c = 10 by omega]
set_option maxHeartbeats 1000000 in
theorem step_corner (d : Nat) (x y : Int32) (σ : tk_S) (hR : Rel σ) : p_X7_corner (d + 1) [aN 0, aI x, aI y] σ (fun r σ1 => p_X8_corner (d + 2) [aN 132, aI x, aI y] σ1 (fun r' σ2 => r = r' ∧ Rel σ2)) := by
  obtain ⟨a, hw, hX, hK, hF, hM⟩ := id hR
  have no : ¬ (isP x y ∧ aWn a < 8) → p_X8_corner (d + 2) [aN 132, aI x, aI y] σ (fun r' σ2 => -1 = r' ∧ Rel σ2) := by
    intro hn
    refine e_X8_corner (d + 2) x y (b_X8_corner_0 (d + 1) x y σ _ ?_)
    refine s_X8_isPin d x y σ _ (fun hp => ⟨fun c => absurd c (by decide), fun _ => ?_⟩) (fun hp => ⟨fun _ => ⟨rfl, hR⟩, fun c => absurd rfl c⟩)
    rw [hM.2.1]
    refine ⟨fun c => absurd ?_ c, fun _ => ⟨rfl, hR⟩⟩
    have h8 := hw.2.1
    have : aWn a = 8 := by
      have : ¬ aWn a < 8 := fun q => hn ⟨hp, q⟩
      omega
    rw [this]; rfl
  refine e_X7_corner (d + 1) x y (b_X7_corner_0 d x y σ _ ?_)
  refine s_X7_isPin d x y σ _ (fun hp => ⟨fun c => absurd c (by decide), fun _ => ?_⟩) (fun hp => ⟨fun _ => no (fun q => hp q.1), fun c => absurd rfl c⟩)
  rw [hX.2.1]
  have h8 := hw.2.1
  refine ⟨fun c => ?_, fun c => no (fun q => c ((lt_nI (k := 8) (by omega) (by omega)).mpr q.2))⟩
  have hlt : aWn a < 8 := (lt_nI (k := 8) (by omega) (by omega)).mp c
  obtain ⟨i, j, hi, hj, rfl, rfl⟩ := hp
  have e1 : (tk_up σ 2 (aWn a) (nI i)).1 0 4 = nI (aWn a) := by rw [rd_o (by omega)]; exact hX.2.1
  rw [nI_clamp (by omega), e1, nI_clamp (by omega)]
  refine ⟨vp_in_nI hlt (by omega), vp_in_nI hlt (by omega), fun σ8 e8 => ?_⟩
  have e2 : σ8.1 0 4 = nI (aWn a) := by rw [e8, rd_o (by omega)]; exact e1
  rw [e2, nI_1, rd_s]
  generalize e9 : tk_up σ8 0 4 (nI (aWn a + 1)) = τ
  have fx : Fr frX σ τ := by
    rw [← e9, e8]
    exact ((Fr.up σ (P := frX) _ (by show (2 : Nat) < 132; omega)).tr (Fr.up _ _ (by show (3 : Nat) < 132; omega))).tr (Fr.up _ _ (by show (0 : Nat) < 132; omega))
  have hMt : MI a τ := hM.fr fx
  have hw' : WF (addCorner a i j) := by
    obtain ⟨w0, w1, w2, w3, w4, w5, w6, w7, w8, w9, w10⟩ := hw
    refine ⟨w0, (show aWn a + 1 ≤ 8 by omega), w2, w3, fun k hk => ?_, w5, w6, w7, w8, w9, w10⟩
    have hk : k < aWn a + 1 := hk
    rw [addC_x, addC_y]
    by_cases hkk : k = aWn a
    · rw [if_pos hkk, if_pos hkk]; exact ⟨hi, hj⟩
    · rw [if_neg hkk, if_neg hkk]; exact w4 k (by omega)
  have hXt : XI (addCorner a i j) τ := by
    obtain ⟨g0, g1, g2, g3, g4, g5, g6, g7, g8, g9⟩ := hX
    have hN := hw.1
    have rd : ∀ k j, k ≠ 0 → k ≠ 2 → k ≠ 3 → τ.1 k j = σ.1 k j := fun k j h1 h2 h3 => by rw [← e9, e8, rd_o (by omega), rd_o (by omega), rd_o (by omega)]
    refine ⟨?_, ?_, ?_, fun k hk => ?_, fun i' hi' => ?_, fun i' j' hi' => ?_, fun s t hs => ?_, fun t ht => ?_, fun i' j' hi' hj' => ?_, fun x' y' hy' => ?_⟩
    · rw [← e9, e8, rd_o (by omega), rd_o (by omega), rd_o (by omega)]; exact g0
    · rw [← e9, rd_s]; rfl
    · rw [← e9, e8, rd_o (by omega), rd_o (by omega), rd_o (by omega)]; exact g2
    · have hk : k < aWn a + 1 := hk
      rw [addC_x, addC_y, ← e9, e8, rd_o (by omega), rd_o (by omega), rd_o (k := 3) (by omega)]
      by_cases hkk : k = aWn a
      · subst hkk
        rw [if_pos rfl, if_pos rfl, rd_s, rd_s]; exact ⟨rfl, rfl⟩
      · rw [if_neg hkk, if_neg hkk, rd_o (by omega), rd_o (by omega), rd_o (by omega)]; exact g3 k (by omega)
    · obtain ⟨q0, q1, q2, q3, q4⟩ := g4 i' hi'
      refine ⟨by rw [rd _ _ (by omega) (by omega) (by omega)]; exact q0, by rw [rd _ _ (by omega) (by omega) (by omega)]; exact q1, by rw [rd _ _ (by omega) (by omega) (by omega)]; exact q2, fun k hk => ?_, fun x' y' hy' => ?_⟩
      · rw [rd _ _ (by omega) (by omega) (by omega), rd _ _ (by omega) (by omega) (by omega)]; exact q3 k hk
      · rw [rd _ _ (by omega) (by omega) (by omega)]; exact q4 x' y' hy'
    · rw [rd _ _ (by omega) (by omega) (by omega)]; exact g5 i' j' hi'
    · rw [rd _ _ (by omega) (by omega) (by omega)]; exact g6 s t hs
    · rw [rd _ _ (by omega) (by omega) (by omega)]; exact g7 t ht
    · rw [rd _ _ (by omega) (by omega) (by omega)]; exact g8 i' j' hi' hj'
    · rw [rd _ _ (by omega) (by omega) (by omega)]; exact g9 x' y' hy'
  refine e_X8_corner (d + 2) _ _ (b_X8_corner_0 (d + 1) _ _ τ _ ?_)
  refine s_X8_isPin d _ _ τ _ (fun hp => ⟨fun c => absurd c (by decide), fun _ => ?_⟩) (fun hp => absurd ⟨i, j, hi, hj, rfl, rfl⟩ hp)
  rw [hMt.2.1]
  refine ⟨fun c => ?_, fun c => absurd ((nI_eq (b := 8) (by omega) (by omega)).mp c) (by omega)⟩
  have e3 : (tk_up τ 133 (aWn a) (nI i)).1 132 1 = nI (aWn a) := by rw [rd_o (by omega)]; exact hMt.2.1
  rw [nI_clamp (by omega), e3, nI_clamp (by omega)]
  refine ⟨vp_in_nI hlt (by omega), vp_in_nI hlt (by omega), fun τ8 e4 => ?_⟩
  have e5 : τ8.1 132 1 = nI (aWn a) := by rw [e4, rd_o (by omega)]; exact e3
  rw [e5, nI_1, rd_s]
  refine ⟨rfl, addCorner a i j, ?_, ?_, ?_, ?_, ?_⟩
  · exact hw'
  · refine hXt.fr hw' ?_
    rw [e4]
    exact ((Fr.up _ _ (by unfold frS; omega)).tr (Fr.up _ _ (by unfold frS; omega))).tr (Fr.up _ _ (by unfold frS; omega))
  · rw [core_corner]
    refine hK.fr (fun k j hk => ?_) ?_
    · rw [e4, rd_o (by omega), rd_o (by omega), rd_o (by omega), ← e9, e8, rd_o (by omega), rd_o (by omega), rd_o (by omega)]
    · rw [e4, ← e9, e8]; rfl
  · refine (show XF (a 11) _ from hF.fr (fun k j hk => ?_))
    rw [e4, rd_o (by omega), rd_o (by omega), rd_o (by omega), ← e9, e8, rd_o (by omega), rd_o (by omega), rd_o (by omega)]
  · obtain ⟨m0, m1, m2, m3, m4, m5, m6, m7, m8⟩ := hMt
    refine ⟨?_, ?_, ?_, fun k hk => ?_, fun i' hi' => ?_, fun i' j' hi' hj' => ?_, fun s t hs ht => ?_, fun t ht => ?_, fun x' y' hx' hy' => ?_⟩
    · rw [e4, rd_o (by omega), rd_o (by omega), rd_o (by omega)]; exact m0
    · rw [rd_s]; rfl
    · rw [e4, rd_o (by omega), rd_o (by omega), rd_o (by omega)]; exact m2
    · have hk : k < aWn a + 1 := hk
      rw [addC_x, addC_y, e4, rd_o (by omega), rd_o (by omega), rd_o (k := 134) (by omega)]
      by_cases hkk : k = aWn a
      · subst hkk
        rw [if_pos rfl, if_pos rfl, rd_s, rd_s]; exact ⟨rfl, rfl⟩
      · rw [if_neg hkk, if_neg hkk, rd_o (by omega), rd_o (by omega), rd_o (by omega)]; exact m3 k (by omega)
    · obtain ⟨g0, g1, g2, g3, g4⟩ := m4 i' hi'
      refine ⟨?_, ?_, ?_, fun k hk => ?_, fun x' y' hx' hy' => ?_⟩
      · rw [e4, rd_o (by omega), rd_o (by omega), rd_o (by omega)]; exact g0
      · rw [e4, rd_o (by omega), rd_o (by omega), rd_o (by omega)]; exact g1
      · rw [e4, rd_o (by omega), rd_o (by omega), rd_o (by omega)]; exact g2
      · rw [e4, rd_o (by omega), rd_o (by omega), rd_o (by omega), rd_o (by omega), rd_o (by omega), rd_o (by omega)]; exact g3 k hk
      · rw [e4, rd_o (by omega), rd_o (by omega), rd_o (by omega)]; exact g4 x' y' hx' hy'
    · rw [e4, rd_o (by omega), rd_o (by omega), rd_o (by omega)]; exact m5 i' j' hi' hj'
    · rw [e4, rd_o (by omega), rd_o (by omega), rd_o (by omega)]; exact m6 s t hs ht
    · rw [e4, rd_o (by omega), rd_o (by omega), rd_o (by omega)]; exact m7 t ht
    · rw [e4, rd_o (by omega), rd_o (by omega), rd_o (by omega)]; exact m8 x' y' hx' hy'
