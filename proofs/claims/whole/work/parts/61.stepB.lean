/-! more steps: gap, price, apart, meet -/
theorem MIs.keep {a : Ab} {σ σ1 : tk_S} {i : Nat} (h : MIs a σ i) (e : ∀ k j, 135 ≤ k → k ≤ 140 → σ1.1 k j = σ.1 k j) : MIs a σ1 i := by
  obtain ⟨g0, g1, g2, g3, g4⟩ := h
  refine ⟨by rw [e _ _ (by omega) (by omega)]; exact g0, by rw [e _ _ (by omega) (by omega)]; exact g1, by rw [e _ _ (by omega) (by omega)]; exact g2, fun k hk => ?_, fun x y hx hy => ?_⟩
  · rw [e _ _ (by omega) (by omega), e _ _ (by omega) (by omega)]; exact g3 k hk
  · rw [e _ _ (by omega) (by omega)]; exact g4 x y hx hy
theorem XIs.keep {a : Ab} {σ σ1 : tk_S} {i : Nat} (h : XIs a σ i) (e : ∀ k j, 72 + 5 * i ≤ k → k ≤ 72 + 5 * i + 4 → σ1.1 k j = σ.1 k j) : XIs a σ1 i := by
  obtain ⟨g0, g1, g2, g3, g4⟩ := h
  refine ⟨by rw [e _ _ (by omega) (by omega)]; exact g0, by rw [e _ _ (by omega) (by omega)]; exact g1, by rw [e _ _ (by omega) (by omega)]; exact g2, fun k hk => ?_, fun x y hy => ?_⟩
  · rw [e _ _ (by omega) (by omega), e _ _ (by omega) (by omega)]; exact g3 k hk
  · rw [e _ _ (by omega) (by omega)]; exact g4 x y hy
theorem not_lt32 {x y : Int32} (h : x ≤ y) : ¬ y < x := fun q => by rw [Int32.lt_iff_toInt_lt] at q; rw [Int32.le_iff_toInt_le] at h; omega
def fgt (σ : tk_S) : tk_S := tk_up (tk_up (tk_up σ 0 14 0) 0 15 0) 0 16 0
theorem fgt_o (σ : tk_S) {k j : Nat} (h : ¬ (k = 0 ∧ 14 ≤ j)) : (fgt σ).1 k j = σ.1 k j := by unfold fgt; rw [rd_o (by omega), rd_o (by omega), rd_o (by omega)]
theorem fgt_K (b : Ab) (σ σ1 : tk_S) (h : ∀ j, σ1.1 0 j = (fgt σ).1 0 j) : XK b σ1 := XK.no (by rw [h]; unfold fgt; rw [rd_o (by omega), rd_o (by omega), rd_s]) (by rw [h]; unfold fgt; rw [rd_o (by omega), rd_s]) (by rw [h]; unfold fgt; rw [rd_s])

set_option maxHeartbeats 1000000 in
theorem step_gap (d : Nat) (x : Int32) (σ : tk_S) (hR : Rel σ) : p_X7_gap (d + 1) [aN 0, aI x] σ (fun r σ1 => p_X8_gap (d + 1) [aN 132, aI x] σ1 (fun r' σ2 => r = r' ∧ Rel σ2)) := by
  obtain ⟨a, hw, hX, hK, hF, hM⟩ := id hR
  have no : (¬ ∃ i : Nat, 1 ≤ i ∧ i ≤ 6 ∧ x = nI i) → p_X8_gap (d + 1) [aN 132, aI x] σ (fun r' σ2 => 0 = r' ∧ Rel σ2) := by
    intro hn
    refine e_X8_gap (d + 1) x (b_X8_gap_0 d x σ _ ?_)
    exact s_X8_isInN d x 1 6 (by omega) (by omega) σ _ (fun i h1 h2 e => absurd ⟨i, h1, h2, e⟩ hn) (fun _ => ⟨fun c => absurd rfl c, fun _ => ⟨rfl, hR⟩⟩)
  refine e_X7_gap (d + 1) x (b_X7_gap_0 d x σ _ ⟨fun c => no ?_, fun c1 => ⟨fun c2 => ?_, fun c => no ?_⟩⟩)
  · rintro ⟨i, h1, h2, rfl⟩
    have := (lt_nI (k := 1) (by omega) (by omega)).mp c
    omega
  · obtain ⟨g, h1, h6, rfl⟩ := nI_rng (lo := 1) (hi := 6) (by omega) (by omega) c1 (not_lt32 c2)
    refine s_X7_forget d _ _ ?_
    generalize e9 : tk_up (tk_up (tk_up (tk_up σ 0 5 (nI g)) 0 14 0) 0 15 0) 0 16 0 = τ
    have e9 : fgt (tk_up σ 0 5 (nI g)) = τ := e9
    have rdx : ∀ k j, ¬ (k = 0 ∧ (j = 5 ∨ 14 ≤ j)) → τ.1 k j = σ.1 k j := fun k j h => by rw [← e9, fgt_o _ (by omega), rd_o (by omega)]
    have hMt : MI a τ := hM.fr (fun k j h => rdx k j (fun q => h (by show k < 132; omega)))
    refine e_X8_gap (d + 1) _ (b_X8_gap_0 d _ τ _ ?_)
    refine s_X8_isInN d _ 1 6 (by omega) (by omega) τ _ (fun i _ _ _ => ⟨fun _ => ?_, fun c => absurd c (by decide)⟩) (fun hn => absurd ⟨g, h1, h6, rfl⟩ hn)
    have rd : ∀ k j, ¬ (k = 132 ∧ j = 2) → (tk_up τ 132 2 (nI g)).1 k j = τ.1 k j := fun k j h => rd_o h
    have rd2 : ∀ k j, ¬ ((k = 0 ∧ (j = 5 ∨ 14 ≤ j)) ∨ (k = 132 ∧ j = 2)) → (tk_up τ 132 2 (nI g)).1 k j = σ.1 k j := fun k j h => (rd k j (by omega)).trans (rdx k j (by omega))
    have hw' : WF (up3 a 0 2 0 g) := by
      obtain ⟨w0, w1, w2, w3, w4, w5, w6, w7, w8, w9, w10⟩ := hw
      exact ⟨w0, w1, h1, h6, w4, w5, w6, w7, w8, w9, w10⟩
    refine ⟨rfl, up3 a 0 2 0 g, hw', ?_, ?_, ?_, ?_⟩
    · obtain ⟨g0, g1, g2, g3, g4, g5, g6, g7, g8, g9⟩ := hX
      have hN : aN0 (up3 a 0 2 0 g) ≤ 12 := hw'.1
      exact ⟨(by rw [rd2 _ _ (by omega)]; exact g0), (by rw [rd2 _ _ (by omega)]; exact g1), (by rw [rd _ _ (by omega), ← e9, fgt_o _ (by omega), rd_s]; rfl), fun k hk => (by rw [rd2 _ _ (by omega), rd2 _ _ (by omega)]; exact g3 k hk), fun i' hi' => (XIs.keep (g4 i' hi') (fun k j h1 h2 => rd2 k j (by omega))), fun i' j' hi' => (by rw [rd2 _ _ (by omega)]; exact g5 i' j' hi'), fun s t hs => (by rw [rd2 _ _ (by omega)]; exact g6 s t hs), fun t ht => (by rw [rd2 _ _ (by omega)]; exact g7 t ht), fun i' j' hi' hj' => (by rw [rd2 _ _ (by omega)]; exact g8 i' j' hi' hj'), fun x' y' hy' => (by rw [rd2 _ _ (by omega)]; exact g9 x' y' hy')⟩
    · exact fgt_K _ (tk_up σ 0 5 (nI g)) _ (fun j => by rw [rd_o (by omega), e9])
    · exact hF.fr (fun k j hk => rd2 k j (by omega))
    · obtain ⟨m0, m1, m2, m3, m4, m5, m6, m7, m8⟩ := hMt
      have hN : aN0 (up3 a 0 2 0 g) ≤ 12 := hw'.1
      exact ⟨(by rw [rd _ _ (by omega)]; exact m0), (by rw [rd _ _ (by omega)]; exact m1), rd_s, fun k hk => (by rw [rd _ _ (by omega), rd _ _ (by omega)]; exact m3 k hk), fun i' hi' => (MIs.keep (m4 i' hi') (fun k j h1 h2 => rd k j (by omega))), fun i' j' hi' hj' => (by rw [rd _ _ (by omega)]; exact m5 i' j' hi' hj'), fun s t hs ht => (by rw [rd _ _ (by omega)]; exact m6 s t hs ht), fun t ht => (by rw [rd _ _ (by omega)]; exact m7 t ht), fun x' y' hx' hy' => (by rw [rd _ _ (by omega)]; exact m8 x' y' hx' hy')⟩
  · rintro ⟨i, h1, h2, rfl⟩
    exact c ((le_nI (k := 6) (by omega) (by omega)).mpr h2)
