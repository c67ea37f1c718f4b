/-! more steps: gap, price, apart, meet -/
theorem MIs.keep {a : Ab} {σ σ1 : tk_S} {i : Nat} (h : MIs a σ i) (e : ∀ k j, 135 ≤ k → k ≤ 140 → σ1.1 k j = σ.1 k j) : MIs a σ1 i := by
  obtain ⟨g0, g1, g2, g3, g4⟩ := h
  refine ⟨by rw [e _ _ (by omega) (by omega)]; exact g0, by rw [e _ _ (by omega) (by omega)]; exact g1, by rw [e _ _ (by omega) (by omega)]; exact g2, fun k hk => ?_, fun x y hx hy => ?_⟩
  · rw [e _ _ (by omega) (by omega), e _ _ (by omega) (by omega)]; exact g3 k hk
  · rw [e _ _ (by omega) (by omega)]; exact g4 x y hx hy
theorem XIs.keep {a : Ab} {σ σ1 : tk_S} {i : Nat} (h : XIs a σ i) (e : ∀ k j, 72 + 5 * i ≤ k → k ≤ 72 + 5 * i + 4 → σ1.1 k j = σ.1 k j) : XIs a σ1 i := by
  obtain ⟨g0, g1, g2, g3, g4⟩ := h
  refine ⟨by rw [e _ _ (by omega) (by omega)]; exact g0, by rw [e _ _ (by omega) (by omega)]; exact g1, by rw [e _ _ (by omega) (by omega)]; exact g2, fun k hk => ?_, fun x y hy => ?_⟩
  · rw [e _ _ (by omega) (by omega), e _ _ (by omega) (by omega)]; exact g3 k hk
  · rw [e _ _ (by omega) (by omega)]; exact g4 x y hy
theorem not_lt32 {x y : Int32} (h : x ≤ y) : ¬ y < x := fun q => by rw [Int32.lt_iff_toInt_lt] at q; rw [Int32.le_iff_toInt_le] at h; omega
def fgt (σ : tk_S) : tk_S := tk_up (tk_up (tk_up σ 0 14 0) 0 15 0) 0 16 0
theorem fgt_o (σ : tk_S) {k j : Nat} (h : ¬ (k = 0 ∧ 14 ≤ j)) : (fgt σ).1 k j = σ.1 k j := by unfold fgt; rw [rd_o (by omega), rd_o (by omega), rd_o (by omega)]
theorem fgt_K (b : Ab) (σ σ1 : tk_S) (h : ∀ j, σ1.1 0 j = (fgt σ).1 0 j) : XK b σ1 := XK.no (by rw [h]; unfold fgt; rw [rd_o (by omega), rd_o (by omega), rd_s]) (by rw [h]; unfold fgt; rw [rd_o (by omega), rd_s]) (by rw [h]; unfold fgt; rw [rd_s])

set_option maxHeartbeats 1000000 in
theorem step_gap (d : Nat) (x : Int32) (σ : tk_S) (hR : Rel σ) : p_X7_gap (d + 1) [aN 0, aI x] σ (fun r σ1 => p_X8_gap (d + 1) [aN 132, aI x] σ1 (fun r' σ2 => r = r' ∧ Rel σ2)) := by
  obtain ⟨a, hw, hX, hK, hF, hM⟩ := id hR
  have no : (¬ ∃ i : Nat, 1 ≤ i ∧ i ≤ 6 ∧ x = nI i) → p_X8_gap (d + 1) [aN 132, aI x] σ (fun r' σ2 => 0 = r' ∧ Rel σ2) := by
    intro hn
    refine e_X8_gap (d + 1) x (b_X8_gap_0 d x σ _ ?_)
    exact s_X8_isInN d x 1 6 (by omega) (by omega) σ _ (fun i h1 h2 e => absurd ⟨i, h1, h2, e⟩ hn) (fun _ => ⟨fun c => absurd rfl c, fun _ => ⟨rfl, hR⟩⟩)
  refine e_X7_gap (d + 1) x (b_X7_gap_0 d x σ _ ⟨fun c => no ?_, fun c1 => ⟨fun c2 => ?_, fun c => no ?_⟩⟩)
  · rintro ⟨i, h1, h2, rfl⟩
    have := (lt_nI (k := 1) (by omega) (by omega)).mp c
    omega
  · obtain ⟨g, h1, h6, rfl⟩ := nI_rng (lo := 1) (hi := 6) (by omega) (by omega) c1 (not_lt32 c2)
    refine s_X7_forget d _ _ ?_
    generalize e9 : tk_up (tk_up (tk_up (tk_up σ 0 5 (nI g)) 0 14 0) 0 15 0) 0 16 0 = τ
    have e9 : fgt (tk_up σ 0 5 (nI g)) = τ := e9
    have rdx : ∀ k j, ¬ (k = 0 ∧ (j = 5 ∨ 14 ≤ j)) → τ.1 k j = σ.1 k j := fun k j h => by rw [← e9, fgt_o _ (by omega), rd_o (by omega)]
    have hMt : MI a τ := hM.fr (fun k j h => rdx k j (fun q => h (by show k < 132; omega)))
    refine e_X8_gap (d + 1) _ (b_X8_gap_0 d _ τ _ ?_)
    refine s_X8_isInN d _ 1 6 (by omega) (by omega) τ _ (fun i _ _ _ => ⟨fun _ => ?_, fun c => absurd c (by decide)⟩) (fun hn => absurd ⟨g, h1, h6, rfl⟩ hn)
    have rd : ∀ k j, ¬ (k = 132 ∧ j = 2) → (tk_up τ 132 2 (nI g)).1 k j = τ.1 k j := fun k j h => rd_o h
    have rd2 : ∀ k j, ¬ ((k = 0 ∧ (j = 5 ∨ 14 ≤ j)) ∨ (k = 132 ∧ j = 2)) → (tk_up τ 132 2 (nI g)).1 k j = σ.1 k j := fun k j h => (rd k j (by omega)).trans (rdx k j (by omega))
    have hw' : WF (up3 a 0 2 0 g) := by
      obtain ⟨w0, w1, w2, w3, w4, w5, w6, w7, w8, w9, w10⟩ := hw
      exact ⟨w0, w1, h1, h6, w4, w5, w6, w7, w8, w9, w10⟩
    refine ⟨rfl, up3 a 0 2 0 g, hw', ?_, ?_, ?_, ?_⟩
    · obtain ⟨g0, g1, g2, g3, g4, g5, g6, g7, g8, g9⟩ := hX
      have hN : aN0 (up3 a 0 2 0 g) ≤ 12 := hw'.1
      exact ⟨(by rw [rd2 _ _ (by omega)]; exact g0), (by rw [rd2 _ _ (by omega)]; exact g1), (by rw [rd _ _ (by omega), ← e9, fgt_o _ (by omega), rd_s]; rfl), fun k hk => (by rw [rd2 _ _ (by omega), rd2 _ _ (by omega)]; exact g3 k hk), fun i' hi' => (XIs.keep (g4 i' hi') (fun k j h1 h2 => rd2 k j (by omega))), fun i' j' hi' => (by rw [rd2 _ _ (by omega)]; exact g5 i' j' hi'), fun s t hs => (by rw [rd2 _ _ (by omega)]; exact g6 s t hs), fun t ht => (by rw [rd2 _ _ (by omega)]; exact g7 t ht), fun i' j' hi' hj' => (by rw [rd2 _ _ (by omega)]; exact g8 i' j' hi' hj'), fun x' y' hy' => (by rw [rd2 _ _ (by omega)]; exact g9 x' y' hy')⟩
    · exact fgt_K _ (tk_up σ 0 5 (nI g)) _ (fun j => by rw [rd_o (by omega), e9])
    · exact hF.fr (fun k j hk => rd2 k j (by omega))
    · obtain ⟨m0, m1, m2, m3, m4, m5, m6, m7, m8⟩ := hMt
      have hN : aN0 (up3 a 0 2 0 g) ≤ 12 := hw'.1
      exact ⟨(by rw [rd _ _ (by omega)]; exact m0), (by rw [rd _ _ (by omega)]; exact m1), rd_s, fun k hk => (by rw [rd _ _ (by omega), rd _ _ (by omega)]; exact m3 k hk), fun i' hi' => (MIs.keep (m4 i' hi') (fun k j h1 h2 => rd k j (by omega))), fun i' j' hi' hj' => (by rw [rd _ _ (by omega)]; exact m5 i' j' hi' hj'), fun s t hs ht => (by rw [rd _ _ (by omega)]; exact m6 s t hs ht), fun t ht => (by rw [rd _ _ (by omega)]; exact m7 t ht), fun x' y' hx' hy' => (by rw [rd _ _ (by omega)]; exact m8 x' y' hx' hy')⟩
  · rintro ⟨i, h1, h2, rfl⟩
    exact c ((le_nI (k := 6) (by omega) (by omega)).mpr h2)

def bn (b : Bool) : Nat := if b then 1 else 0
theorem b2i_bn (b : Bool) : b2i b = nI (bn b) := by cases b <;> rfl
theorem bn_le (b : Bool) : bn b ≤ 1 := by cases b <;> decide
theorem bn_1 {b : Bool} : bn b = 1 ↔ b = true := by cases b <;> decide
theorem flip_b {P : Prop} [Decidable P] (hP : P) {n k : Nat} {b : Bool} (hn : n ≤ 1) (hv : n ≠ bn b) : (decide (P ∧ n = 1) ^^ decide (k = k)) = decide (P ∧ bn b = 1) := by
  have e : n = 1 - bn b := by cases b <;> simp [bn] at hv ⊢ <;> omega
  cases b
  · have : n = 1 := by rw [e]; rfl
    simp [hP, this, bn]
  · have : n = 0 := by rw [e]; rfl
    simp [hP, this, bn]

theorem pr_at (a : Ab) (t v t' : Nat) : aPr (up3 a 8 t 0 v) t' = if t' = t then v else aPr a t' := by simp [up3]
set_option maxHeartbeats 1000000 in
theorem step_price (d : Nat) (x y : Int32) (σ : tk_S) (hR : Rel σ) : p_X7_price (d + 1) [aN 0, aI x, aI y] σ (fun r σ1 => p_X8_price (d + 2) [aN 132, aI x, aI y] σ1 (fun r' σ2 => r = r' ∧ Rel σ2)) := by
  obtain ⟨a, hw, hX, hK, hF, hM⟩ := id hR
  have no : (¬ ((∃ t : Nat, t < 4 ∧ x = nI t) ∧ ∃ v : Nat, v ≤ 99 ∧ y = nI v)) → p_X8_price (d + 2) [aN 132, aI x, aI y] σ (fun r' σ2 => 0 = r' ∧ Rel σ2) := by
    intro hn
    refine e_X8_price (d + 2) x y (b_X8_price_0 (d + 1) x y σ _ ?_)
    refine s_X8_isTexture d x σ _ (fun t ht et => ⟨fun c => absurd c (by decide), fun _ => ?_⟩) (fun _ => ⟨fun _ => ⟨rfl, hR⟩, fun c => absurd rfl c⟩)
    exact s_X8_isInN (d + 1) y 0 99 (by omega) (by omega) σ _ (fun v _ hv ev => absurd ⟨⟨t, ht, et⟩, v, hv, ev⟩ hn) (fun _ => ⟨fun c => absurd rfl c, fun _ => ⟨rfl, hR⟩⟩)
  refine e_X7_price (d + 1) x y (b_X7_price_0 d x y σ _ ?_)
  refine s_X7_isTexture d x σ _ (fun t ht et => ⟨fun c => absurd c (by decide), fun _ => ⟨fun c => no ?_, fun c1 => ⟨fun c2 => ?_, fun c => no ?_⟩⟩⟩) (fun hn => ⟨fun _ => no (fun q => hn q.1), fun c => absurd rfl c⟩)
  · rintro ⟨_, v, hv, rfl⟩
    exact nI_pos (by omega) c
  · subst et
    obtain ⟨v, -, hv, rfl⟩ := nI_rng (lo := 0) (hi := 99) (by omega) (by omega) c1 (not_lt32 c2)
    rw [nI_clamp (by omega)]
    refine ⟨vp_in_nI ht (by omega), s_X7_forget d _ _ ?_⟩
    generalize e9 : tk_up (tk_up (tk_up (tk_up σ 32 t (nI v)) 0 14 0) 0 15 0) 0 16 0 = τ
    have e9 : fgt (tk_up σ 32 t (nI v)) = τ := e9
    have rdx : ∀ k j, ¬ ((k = 0 ∧ 14 ≤ j) ∨ (k = 32 ∧ j = t)) → τ.1 k j = σ.1 k j := fun k j h => by rw [← e9, fgt_o _ (by omega), rd_o (by omega)]
    have hMt : MI a τ := hM.fr (fun k j h => rdx k j (fun q => h (by show k < 132; omega)))
    refine e_X8_price (d + 2) _ _ (b_X8_price_0 (d + 1) _ _ τ _ ?_)
    refine s_X8_isTexture d _ τ _ (fun _ _ _ => ⟨fun c => absurd c (by decide), fun _ => ?_⟩) (fun hn => absurd ⟨t, ht, rfl⟩ hn)
    refine s_X8_isInN (d + 1) _ 0 99 (by omega) (by omega) τ _ (fun i _ _ _ => ⟨fun _ => ⟨vp_in_nI ht (by omega), ?_⟩, fun c => absurd c (by decide)⟩) (fun hn => absurd ⟨v, Nat.zero_le _, hv, rfl⟩ hn)
    rw [nI_clamp (by omega)]
    have rd : ∀ k j, ¬ (k = 143 ∧ j = t) → (tk_up τ 143 t (nI v)).1 k j = τ.1 k j := fun k j h => rd_o h
    have rd2 : ∀ k j, ¬ ((k = 0 ∧ 14 ≤ j) ∨ (k = 32 ∧ j = t) ∨ (k = 143 ∧ j = t)) → (tk_up τ 143 t (nI v)).1 k j = σ.1 k j := fun k j h => (rd k j (by omega)).trans (rdx k j (by omega))
    have hw' : WF (up3 a 8 t 0 v) := by
      obtain ⟨w0, w1, w2, w3, w4, w5, w6, w7, w8, w9, w10⟩ := hw
      refine ⟨w0, w1, w2, w3, w4, w5, w6, w7, w8, fun t' ht' => ?_, w10⟩
      rw [pr_at]
      by_cases e : t' = t
      · rw [if_pos e]; exact hv
      · rw [if_neg e]; exact w9 t' ht'
    refine ⟨rfl, up3 a 8 t 0 v, hw', ?_, ?_, ?_, ?_⟩
    · obtain ⟨g0, g1, g2, g3, g4, g5, g6, g7, g8, g9⟩ := hX
      have hN : aN0 (up3 a 8 t 0 v) ≤ 12 := hw'.1
      exact ⟨(by rw [rd2 _ _ (by omega)]; exact g0), (by rw [rd2 _ _ (by omega)]; exact g1), (by rw [rd2 _ _ (by omega)]; exact g2), fun k hk => (by rw [rd2 _ _ (by omega), rd2 _ _ (by omega)]; exact g3 k hk), fun i' hi' => (XIs.keep (g4 i' hi') (fun k j h1 h2 => rd2 k j (by omega))), fun i' j' hi' => (by rw [rd2 _ _ (by omega)]; exact g5 i' j' hi'), fun s t hs => (by rw [rd2 _ _ (by omega)]; exact g6 s t hs), fun t_ ht => (by
          rw [pr_at]
          by_cases e : t_ = t
          · rw [if_pos e, e, rd _ _ (by omega), ← e9, fgt_o _ (by omega), rd_s]
          · rw [if_neg e, rd2 _ _ (by omega)]; exact g7 t_ ht), fun i' j' hi' hj' => (by rw [rd2 _ _ (by omega)]; exact g8 i' j' hi' hj'), fun x' y' hy' => (by rw [rd2 _ _ (by omega)]; exact g9 x' y' hy')⟩
    · exact fgt_K _ (tk_up σ 32 t (nI v)) _ (fun j => by rw [rd_o (by omega), e9])
    · exact hF.fr (fun k j hk => rd2 k j (by omega))
    · obtain ⟨m0, m1, m2, m3, m4, m5, m6, m7, m8⟩ := hMt
      have hN : aN0 (up3 a 8 t 0 v) ≤ 12 := hw'.1
      exact ⟨(by rw [rd _ _ (by omega)]; exact m0), (by rw [rd _ _ (by omega)]; exact m1), (by rw [rd _ _ (by omega)]; exact m2), fun k hk => (by rw [rd _ _ (by omega), rd _ _ (by omega)]; exact m3 k hk), fun i' hi' => (MIs.keep (m4 i' hi') (fun k j h1 h2 => rd k j (by omega))), fun i' j' hi' hj' => (by rw [rd _ _ (by omega)]; exact m5 i' j' hi' hj'), fun s t hs ht => (by rw [rd _ _ (by omega)]; exact m6 s t hs ht), fun t_ ht => (by
          rw [pr_at]
          by_cases e : t_ = t
          · rw [if_pos e, e, rd_s]
          · rw [if_neg e, rd _ _ (by omega)]; exact m7 t_ ht), fun x' y' hx' hy' => (by rw [rd _ _ (by omega)]; exact m8 x' y' hx' hy')⟩
  · rintro ⟨_, v, hv, rfl⟩
    exact c ((le_nI (k := 99) (by omega) (by omega)).mpr hv)

theorem ap_at (a : Ab) (s t v s' t' : Nat) : aAp (up3 (up3 a 7 s t v) 7 t s v) s' t' = if (s' = t ∧ t' = s) ∨ (s' = s ∧ t' = t) then v else aAp a s' t' := by
  simp only [up3, true_and]
  by_cases h1 : s' = t ∧ t' = s
  · simp [h1]
  · by_cases h2 : s' = s ∧ t' = t
    · simp [h1, h2]
    · simp [h1, h2]
set_option maxHeartbeats 2000000 in
theorem step_apart (d : Nat) (x y : Int32) (b : Bool) (σ : tk_S) (hR : Rel σ) : p_X7_apart (d + 1) [aN 0, aI x, aI y, aI (b2i b)] σ (fun r σ1 => p_X8_apart (d + 2) [aN 132, aI x, aI y, aI (b2i b)] σ1 (fun r' σ2 => r = r' ∧ Rel σ2)) := by
  obtain ⟨a, hw, hX, hK, hF, hM⟩ := id hR
  have no : (¬ ∃ s t : Nat, s < 4 ∧ t < 4 ∧ x = nI s ∧ y = nI t ∧ s ≠ t ∧ aAp a s t ≠ bn b) → p_X8_apart (d + 2) [aN 132, aI x, aI y, aI (b2i b)] σ (fun r' σ2 => 0 = r' ∧ Rel σ2) := by
    intro hn
    refine e_X8_apart (d + 2) x y (b2i b) (b_X8_apart_0 (d + 1) x y (b2i b) σ _ ?_)
    refine s_X8_isTexture d x σ _ (fun s hs es => ⟨fun c => absurd c (by decide), fun _ => ?_⟩) (fun _ => ⟨fun _ => ⟨rfl, hR⟩, fun c => absurd rfl c⟩)
    refine s_X8_isTexture d y σ _ (fun t ht et => ⟨fun c => absurd c (by decide), fun _ => ⟨fun _ => ⟨rfl, hR⟩, fun cst => ?_⟩⟩) (fun _ => ⟨fun _ => ⟨rfl, hR⟩, fun c => absurd rfl c⟩)
    subst es; subst et
    rw [ix4, nI_clamp (by omega), hM.2.2.2.2.2.2.1 s t hs ht, b2i_bn]
    refine ⟨vp_in_nI (by omega) (by omega), fun c => ?_, fun _ => ⟨rfl, hR⟩⟩
    exact absurd ⟨s, t, hs, ht, rfl, rfl, fun q => cst (by rw [q]), fun q => c (by rw [q])⟩ hn
  refine e_X7_apart (d + 1) x y (b2i b) (b_X7_apart_0 d x y (b2i b) σ _ ?_)
  refine s_X7_isTexture d x σ _ (fun s hs es => ⟨fun c => absurd c (by decide), fun _ => ?_⟩) (fun hn => ⟨fun _ => no (fun ⟨s, t, h1, _, h2, _⟩ => hn ⟨s, h1, h2⟩), fun c => absurd rfl c⟩)
  refine s_X7_isTexture d y σ _ (fun t ht et => ⟨fun c => absurd c (by decide), fun _ => ⟨fun c => no ?_, fun cst => ?_⟩⟩) (fun hn => ⟨fun _ => no (fun ⟨s, t, _, h1, _, h2, _⟩ => hn ⟨t, h1, h2⟩), fun c => absurd rfl c⟩)
  · rintro ⟨s', t', h1, h2, h3, h4, h5, _⟩
    exact h5 ((nI_eq (by omega) (by omega)).mp (by rw [← h3, ← h4]; exact c))
  subst es; subst et
  have hst : s ≠ t := fun q => cst (by rw [q])
  rw [nI_clamp (by omega), nI_clamp (by omega)]
  refine ⟨vp_in_nI hs (by omega), s_X7_has d _ (by omega) σ _ ?_⟩
  have hb := hX.2.2.2.2.2.2.1 s t hs
  have hle := (hw.2.2.2.2.2.2.2.1 s t hs ht).1
  rw [hb]
  refine ⟨fun c => ?_, fun c => no ?_⟩
  · have hv : aAp a s t ≠ bn b := by
      intro q
      apply c
      cases b
      · rw [decide_eq_false (by rw [q]; simp [bn])]
      · rw [decide_eq_true ⟨ht, by rw [q]; rfl⟩]
    refine ⟨vp_in_nI hs (by omega), vp_in_nI hs (by omega), vp_in_nI ht (by omega), vp_in_nI ht (by omega), fun σ9 e8 => s_X7_forget d _ _ ?_⟩
    rw [rd_o (k := 31) (by omega)] at e8
    generalize e9 : tk_up (tk_up (tk_up σ9 0 14 0) 0 15 0) 0 16 0 = τ
    have e9 : fgt σ9 = τ := e9
    have rdx : ∀ k j, ¬ ((k = 0 ∧ 14 ≤ j) ∨ (k = 31 ∧ (j = s ∨ j = t))) → τ.1 k j = σ.1 k j := fun k j h => by rw [← e9, fgt_o _ (by omega), e8, rd_o (by omega), rd_o (by omega)]
    have hMt : MI a τ := hM.fr (fun k j h => rdx k j (fun q => h (by show k < 132; omega)))
    refine e_X8_apart (d + 2) _ _ _ (b_X8_apart_0 (d + 1) _ _ _ τ _ ?_)
    refine s_X8_isTexture d _ τ _ (fun _ _ _ => ⟨fun c => absurd c (by decide), fun _ => ?_⟩) (fun hn => absurd ⟨s, hs, rfl⟩ hn)
    refine s_X8_isTexture d _ τ _ (fun _ _ _ => ⟨fun c => absurd c (by decide), fun _ => ⟨fun c => absurd c cst, fun _ => ?_⟩⟩) (fun hn => absurd ⟨t, ht, rfl⟩ hn)
    rw [ix4, ix4, nI_clamp (by omega), nI_clamp (by omega), hMt.2.2.2.2.2.2.1 s t hs ht]
    refine ⟨vp_in_nI (by omega) (by omega), fun _ => ⟨vp_in_nI (by omega) (by omega), b2i_vp b, vp_in_nI (by omega) (by omega), b2i_vp b, fun τ8 e7 => ?_⟩, fun c => absurd ((nI_eq (by omega) (by have := bn_le b; omega)).mp (c.trans (b2i_bn b))) hv⟩
    have rd : ∀ k j, ¬ (k = 142 ∧ (j = 4 * s + t ∨ j = 4 * t + s)) → τ8.1 k j = τ.1 k j := fun k j h => by rw [e7, rd_o (by omega), rd_o (by omega)]
    have rd2 : ∀ k j, ¬ ((k = 0 ∧ 14 ≤ j) ∨ (k = 31 ∧ (j = s ∨ j = t)) ∨ (k = 142 ∧ (j = 4 * s + t ∨ j = 4 * t + s))) → τ8.1 k j = σ.1 k j := fun k j h => (rd k j (by omega)).trans (rdx k j (by omega))
    obtain ⟨v, ev⟩ : ∃ v, v = bn b := ⟨_, rfl⟩
    have hw' : WF (up3 (up3 a 7 s t v) 7 t s v) := by
      obtain ⟨w0, w1, w2, w3, w4, w5, w6, w7, w8, w9, w10⟩ := hw
      refine ⟨w0, w1, w2, w3, w4, w5, w6, fun s' t' hs' ht' => ?_, fun s' hs' => ?_, w9, w10⟩
      · rw [ap_at, ap_at]
        have hvl := bn_le b
        by_cases e : (s' = t ∧ t' = s) ∨ (s' = s ∧ t' = t)
        · rw [if_pos e, if_pos (by omega)]; omega
        · rw [if_neg e, if_neg (by omega)]; exact w7 s' t' hs' ht'
      · rw [ap_at, if_neg (by omega)]; exact w8 s' hs'
    refine ⟨rfl, up3 (up3 a 7 s t v) 7 t s v, hw', ?_, ?_, ?_, ?_⟩
    · obtain ⟨g0, g1, g2, g3, g4, g5, g6, g7, g8, g9⟩ := hX
      have hN : aN0 (up3 (up3 a 7 s t v) 7 t s v) ≤ 12 := hw'.1
      exact ⟨(by rw [rd2 _ _ (by omega)]; exact g0), (by rw [rd2 _ _ (by omega)]; exact g1), (by rw [rd2 _ _ (by omega)]; exact g2), fun k hk => (by rw [rd2 _ _ (by omega), rd2 _ _ (by omega)]; exact g3 k hk), fun i' hi' => (XIs.keep (g4 i' hi') (fun k j h1 h2 => rd2 k j (by omega))), fun i' j' hi' => (by rw [rd2 _ _ (by omega)]; exact g5 i' j' hi'), fun s_ t_ hs => (by
          rw [ap_at]
          by_cases e1 : s_ = s
          · subst e1
            rw [rd _ _ (by omega), ← e9, fgt_o _ (by omega), e8, rd_o (by omega), rd_s, b_xor, bt_1 (by omega), g6 _ _ hs]
            by_cases e2 : t_ = t
            · subst e2
              rw [if_pos (by omega), ev]
              exact flip_b ht hle hv
            · rw [if_neg (by omega), decide_eq_false (p := t_ = t) e2, Bool.xor_false]
          · by_cases e3 : s_ = t
            · subst e3
              rw [rd _ _ (by omega), ← e9, fgt_o _ (by omega), e8, rd_s, b_xor, bt_1 (by omega), g6 _ _ hs]
              by_cases e2 : t_ = s
              · subst e2
                rw [if_pos (by omega), ev]
                have hsy := (hw.2.2.2.2.2.2.2.1 t_ s_ (by omega) (by omega)).2
                exact flip_b (by omega) (by omega) (by omega)
              · rw [if_neg (by omega), decide_eq_false (p := t_ = s) e2, Bool.xor_false]
            · rw [if_neg (by omega), rd2 _ _ (by omega)]; exact g6 s_ t_ hs), fun t ht => (by rw [rd2 _ _ (by omega)]; exact g7 t ht), fun i' j' hi' hj' => (by rw [rd2 _ _ (by omega)]; exact g8 i' j' hi' hj'), fun x' y' hy' => (by rw [rd2 _ _ (by omega)]; exact g9 x' y' hy')⟩
    · exact fgt_K _ σ9 _ (fun j => by rw [rd _ _ (by omega), e9])
    · exact hF.fr (fun k j hk => rd2 k j (by omega))
    · obtain ⟨m0, m1, m2, m3, m4, m5, m6, m7, m8⟩ := hMt
      have hN : aN0 (up3 (up3 a 7 s t v) 7 t s v) ≤ 12 := hw'.1
      exact ⟨(by rw [rd _ _ (by omega)]; exact m0), (by rw [rd _ _ (by omega)]; exact m1), (by rw [rd _ _ (by omega)]; exact m2), fun k hk => (by rw [rd _ _ (by omega), rd _ _ (by omega)]; exact m3 k hk), fun i' hi' => (MIs.keep (m4 i' hi') (fun k j h1 h2 => rd k j (by omega))), fun i' j' hi' hj' => (by rw [rd _ _ (by omega)]; exact m5 i' j' hi' hj'), fun s_ t_ hs ht => (by
          rw [ap_at]
          by_cases e : (s_ = t ∧ t_ = s) ∨ (s_ = s ∧ t_ = t)
          · rw [if_pos e, ev, ← b2i_bn, e7]
            by_cases e4 : 4 * s_ + t_ = 4 * t + s
            · rw [e4, rd_s]
            · rw [rd_o (by omega), show 4 * s_ + t_ = 4 * s + t by omega, rd_s]
          · rw [if_neg e, rd _ _ (by omega)]; exact m6 s_ t_ hs ht), fun t ht => (by rw [rd _ _ (by omega)]; exact m7 t ht), fun x' y' hx' hy' => (by rw [rd _ _ (by omega)]; exact m8 x' y' hx' hy')⟩
  · rintro ⟨s', t', h1, h2, h3, h4, h5, h6⟩
    have e3 : s' = s := ((nI_eq (by omega) (by omega)).mp h3).symm
    have e4 : t' = t := ((nI_eq (by omega) (by omega)).mp h4).symm
    subst e3; subst e4
    apply h6
    cases b
    · have hd := b2i_0.mp c
      have hne : ¬ aAp a s' t' = 1 := fun q => by rw [decide_eq_true ⟨h2, q⟩] at hd; cases hd
      show aAp a s' t' = 0
      omega
    · have hd : decide (t' < 4 ∧ aAp a s' t' = 1) = true := by
        rcases Bool.eq_false_or_eq_true (decide (t' < 4 ∧ aAp a s' t' = 1)) with q | q
        · exact q
        · rw [q] at c; cases c
      exact (of_decide_eq_true hd).2
