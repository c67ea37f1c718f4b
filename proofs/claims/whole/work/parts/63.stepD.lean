/-! the step far; a shape that comes -/
theorem step_far (d : Nat) (x y : Int32) (σ : tk_S) (hR : Rel σ) : p_X7_far (d + 1) [aN 0, aI x, aI y] σ (fun r σ1 => p_X8_far (d + 2) [aN 132, aI x, aI y] σ1 (fun r' σ2 => r = r' ∧ Rel σ2)) := by
  obtain ⟨a, hw, hX, hK, hF, hM⟩ := id hR
  have hn12 : aN0 a ≤ 12 := hw.1
  have no : ¬ ((∃ i : Nat, i < aN0 a ∧ x = nI i) ∧ ∃ j : Nat, j < aN0 a ∧ y = nI j) → p_X8_far (d + 2) [aN 132, aI x, aI y] σ (fun r' σ2 => -1 = r' ∧ Rel σ2) := by
    intro hn
    refine e_X8_far (d + 2) x y (b_X8_far_0 (d + 1) x y σ _ ?_)
    refine s_X8_isShape d x hn12 σ hM.1 _ (fun i hi ei => ⟨fun c => absurd c (by decide), fun _ => ?_⟩) (fun _ => ⟨fun _ => ⟨rfl, hR⟩, fun c => absurd rfl c⟩)
    exact s_X8_isShape d y hn12 σ hM.1 _ (fun j hj ej => absurd ⟨⟨i, hi, ei⟩, j, hj, ej⟩ hn) (fun _ => ⟨fun _ => ⟨rfl, hR⟩, fun c => absurd rfl c⟩)
  refine e_X7_far (d + 1) x y (b_X7_far_0 d x y σ _ ?_)
  refine s_X7_isShape d x hn12 σ hX.1 _ (fun i hi ei => ⟨fun c => absurd c (by decide), fun _ => ?_⟩) (fun hn => ⟨fun _ => no (fun q => hn q.1), fun c => absurd rfl c⟩)
  refine s_X7_isShape d y hn12 σ hX.1 _ (fun j hj ej => ⟨fun _ => ?_, fun c => absurd c (by decide)⟩) (fun hn => ⟨fun c => absurd rfl c, fun _ => no (fun q => hn q.2)⟩)
  subst ei; subst ej
  rw [nI_clamp (by omega), nI_clamp (by omega)]
  refine ⟨vp_in_nI (by omega) (by omega), vp_in_nI (by omega) (by omega), ?_⟩
  obtain ⟨f, e1, e2⟩ := hX.2.2.2.2.2.2.2.2.1 i j hi hj
  rw [show 5 + 1 + 1 * i = 6 + i by omega, e1]
  refine e_X8_far (d + 2) _ _ (b_X8_far_0 (d + 1) _ _ σ _ ?_)
  refine s_X8_isShape d _ hn12 σ hM.1 _ (fun _ _ _ => ⟨fun c => absurd c (by decide), fun _ => ?_⟩) (fun hn => absurd ⟨i, hi, rfl⟩ hn)
  refine s_X8_isShape d _ hn12 σ hM.1 _ (fun _ _ _ => ⟨fun c => absurd c (by decide), fun _ => ?_⟩) (fun hn => absurd ⟨j, hj, rfl⟩ hn)
  have mi : mpin σ i (pinP a i) := fun x y hx hy => (hM.2.2.2.2.1 i hi).2.2.2.2 x y hx hy
  have mj : mpin σ j (pinP a j) := fun x y hx hy => (hM.2.2.2.2.1 j hj).2.2.2.2 x y hx hy
  refine s_X8_farOf d i j (by omega) (by omega) σ _ _ mi mj _ (fun L hL => ⟨?_, hR⟩)
  rw [far_uq e2 (far_of_lb (hw.2.2.2.2.2.1 i hi) (hw.2.2.2.2.2.1 j hj) hL)]
theorem pinP_c {a a' : Ab} {i : Nat} (h1 : aKi a' i = aKi a i) (h3 : aNc a' i = aNc a i) (h4 : ∀ k, aX a' i k = aX a i k) (h5 : ∀ k, aY a' i k = aY a i k) (x y : Nat) : pinP a' i x y ↔ pinP a i x y := by
  unfold pinP lineP groundP markP stX stY stN
  simp only [h1, h3, h4, h5]
theorem reach_c {a a' : Ab} {i j : Nat} (hi : ∀ x y, pinP a' i x y ↔ pinP a i x y) (hj : ∀ x y, pinP a' j x y ↔ pinP a j x y) (d : Nat) : reach a' i j d ↔ reach a i j d := by
  unfold reach
  simp only [hi, hj]
theorem isFar_c {a a' : Ab} {i j : Nat} (hi : ∀ x y, pinP a' i x y ↔ pinP a i x y) (hj : ∀ x y, pinP a' j x y ↔ pinP a j x y) (f : Nat) : isFar a' i j f ↔ isFar a i j f := by
  unfold isFar
  simp only [reach_c hi hj]
theorem fgt_z (σ : tk_S) : (fgt σ).1 0 14 = 0 ∧ (fgt σ).1 0 15 = 0 ∧ (fgt σ).1 0 16 = 0 := by
  unfold fgt
  refine ⟨by rw [rd_o (by omega), rd_o (by omega), rd_s], by rw [rd_o (by omega), rd_s], by rw [rd_s]⟩
/-- a shape that comes -/
def addS (a : Ab) (ki w nc wn : Nat) (X Y : Nat → Nat) : Ab := fun c i j => if c = 0 ∧ i = 0 then aN0 a + 1 else if c = 0 ∧ i = 1 then wn else if c = 1 ∧ i = aN0 a then ki else if c = 2 ∧ i = aN0 a then w else if c = 3 ∧ i = aN0 a then nc else if c = 4 ∧ i = aN0 a then X j else if c = 5 ∧ i = aN0 a then Y j else if c = 6 ∧ (i = aN0 a ∨ j = aN0 a) then 0 else a c i j
/-- the class' cells with the new shape's numbers laid, ahead of its drawing -/
def XJ (a : Ab) (n : Nat) (σ : tk_S) : Prop := σ.1 0 1 = nI n ∧ σ.1 0 4 = nI (aWn a) ∧ σ.1 0 5 = nI (aGap a) ∧ (∀ k, k < aWn a → σ.1 2 k = nI (aWX a k) ∧ σ.1 3 k = nI (aWY a k)) ∧ (∀ i, i < n → XIs a σ i) ∧ (xco a σ (72 + 5 * n) n ∧ σ.1 (72 + 5 * n) 1 = nI (aWo a n)) ∧ (∀ i j, i < 12 → bt (σ.1 4 i) j = decide (i < aN0 a ∧ j < aN0 a ∧ aMe a i j = 1)) ∧ (∀ s t, s < 4 → bt (σ.1 31 s) t = decide (t < 4 ∧ aAp a s t = 1)) ∧ (∀ t, t < 4 → σ.1 32 t = nI (aPr a t)) ∧ (∀ i j, i < n → j < n → ∃ f, σ.1 (6 + i) j = nI f ∧ isFar a i j f) ∧ ∀ x y, y < 24 → bt (σ.1 53 y) x = decide (x < 24 ∧ aUp a x y = 1)
def frF : Nat → Nat → Prop := fun k _ => k < 54 ∨ (72 ≤ k ∧ k < 132)
set_option maxHeartbeats 2000000 in
theorem s_X7_finish (d n : Nat) (a : Ab) (hw : WF a) (hN : aN0 a = n + 1) (σ : tk_S) (hJ : XJ a n σ) (Q : Int32 → tk_S → Prop) (h : ∀ σ', XI a σ' → (σ'.1 0 14 = 0 ∧ σ'.1 0 15 = 0 ∧ σ'.1 0 16 = 0) → Fr frF σ σ' → Q (nI n) σ') : p_X7_finish (d + 5) [aN 0, aN (1 + 71 + 5 * n)] σ Q := by
  have hn12 := hw.1
  have hWs : ∀ j, j < n + 1 → WFs a j := fun j hj => hw.2.2.2.2.2.1 j (by omega)
  obtain ⟨j0, j1, j2, j3, j4, ⟨j5, j5b⟩, j6, j7, j8, j9, j10⟩ := hJ
  refine e_X7_finish (d + 5) _ (b_X7_finish_0 (d + 4) _ (tk_shp (by omega)) σ Q (fun z1 e1 => ?_))
  rw [j0] at e1
  subst e1
  have e72 : 1 + 71 + 5 * n = 72 + 5 * n := by omega
  refine s_X3_draw d _ (tk_shp (by omega)) a n (hWs n (by omega)) σ (by rw [e72]; exact j5) _ (fun σ3 f3 g3 m3 => ?_)
  rw [e72] at f3 m3
  have c3 : σ3.1 0 1 = nI n := by rw [f3 0 1 (by unfold frK; omega)]; exact j0
  rw [c3, nI_1]
  generalize e4 : tk_up σ3 0 1 (nI (n + 1)) = σ4
  have rd4 : ∀ k j, ¬ ((k = 0 ∧ j = 1) ∨ k = 72 + 5 * n + 4) → σ4.1 k j = σ.1 k j := fun k j hk => by rw [← e4, rd_o (by omega), f3 k j (by unfold frK; omega)]
  have c4 : σ4.1 0 1 = nI (n + 1) := by rw [← e4, rd_s]
  have row4 : ∀ j, j < n + 1 → xrow σ4 (72 + 5 * j + 4) (pinP a j) := by
    intro j hj x y hy
    by_cases e : j = n
    · subst e
      rw [← e4, rd_o (by omega)]
      exact m3 x y hy
    · rw [rd4 _ _ (by omega), (j4 j (by omega)).2.2.2.2 x y hy]
      exact pB_c ⟨fun q => ⟨q.1, q⟩, fun q => q.2⟩
  refine s_X7_measure (d + 2) n (n + 1) (by omega) (by omega) a hWs σ4 c4 row4 _ (fun σ5 f5 g5 d5 => s_X7_forget (d + 4) σ5 _ ?_)
  generalize e6 : tk_up (tk_up (tk_up σ5 0 14 0) 0 15 0) 0 16 0 = σ6
  have e6 : fgt σ5 = σ6 := e6
  have rd6 : ∀ k j, ¬ (k = 0 ∧ 14 ≤ j) → σ6.1 k j = σ5.1 k j := fun k j hk => by rw [← e6, fgt_o _ hk]
  have rd : ∀ k j, ¬ ((k = 0 ∧ (j = 1 ∨ 14 ≤ j)) ∨ k = 72 + 5 * n + 4 ∨ frMs n k j) → σ6.1 k j = σ.1 k j := fun k j hk => by
    rw [rd6 k j (fun q => hk (Or.inl ⟨q.1, Or.inr q.2⟩)), f5 k j (fun q => hk (Or.inr (Or.inr q))), rd4 k j (fun q => hk (q.elim (fun z => Or.inl ⟨z.1, Or.inl z.2⟩) (fun z => Or.inr (Or.inl z))))]
  refine h σ6 ?_ (by rw [← e6]; exact fgt_z σ5) (fun k j hk => ?_)
  · refine ⟨?_, ?_, ?_, fun k hk => ?_, fun i hi => ?_, fun i j hi => ?_, fun s t hs => ?_, fun t ht => ?_, fun i j hi hj => ?_, fun x y hy => ?_⟩
    · rw [rd6 _ _ (by omega), f5 0 1 (by unfold frMs; omega), c4, hN]
    · rw [rd _ _ (by unfold frMs; omega)]; exact j1
    · rw [rd _ _ (by unfold frMs; omega)]; exact j2
    · rw [rd _ _ (by unfold frMs; omega), rd _ _ (by unfold frMs; omega)]; exact j3 k hk
    · by_cases e : i = n
      · subst e
        refine ⟨by rw [rd _ _ (by unfold frMs; omega)]; exact j5.1, by rw [rd _ _ (by unfold frMs; omega)]; exact j5b, by rw [rd _ _ (by unfold frMs; omega)]; exact j5.2.1, fun k hk => ?_, fun x y hy => ?_⟩
        · rw [rd _ _ (by unfold frMs; omega), rd _ _ (by unfold frMs; omega)]; exact j5.2.2 k hk
        · rw [rd6 _ _ (by omega), f5 _ _ (by unfold frMs; omega), row4 i (by omega) x y hy]
          exact pB_c ⟨fun q => q.2, fun q => ⟨q.1, q⟩⟩
      · exact XIs.keep (j4 i (by omega)) (fun k j h1 h2 => rd k j (by unfold frMs; omega))
    · rw [rd _ _ (by unfold frMs; omega)]; exact j6 i j hi
    · rw [rd _ _ (by unfold frMs; omega)]; exact j7 s t hs
    · rw [rd _ _ (by unfold frMs; omega)]; exact j8 t ht
    · rw [rd6 _ _ (by omega)]
      by_cases ei : i = n
      · subst ei
        obtain ⟨f, z1, z2, z3⟩ := d5 j (by omega)
        exact ⟨f, z1, z3⟩
      · by_cases ej : j = n
        · subst ej
          obtain ⟨f, z1, z2, z3⟩ := d5 i (by omega)
          exact ⟨f, z2, far_sym z3⟩
        · rw [← rd6 _ _ (by omega), rd _ _ (by unfold frMs; omega)]
          exact j9 i j (by omega) (by omega)
    · rw [rd _ _ (by unfold frMs; omega)]; exact j10 x y hy
  · have hk : ¬ (k < 54 ∨ (72 ≤ k ∧ k < 132)) := hk
    exact rd k j (by unfold frMs; omega)
set_option maxHeartbeats 1000000 in
theorem s_X8_comes (d n : Nat) (hn : n < 12) (σ : tk_S) (h0 : σ.1 132 0 = nI n) (x1 x2 x3 : Int32) (Q : Int32 → tk_S → Prop) (h : ∀ σ', σ'.1 132 0 = nI (n + 1) → σ'.1 135 n = x1 → σ'.1 136 n = x2 → σ'.1 137 n = x3 → (∀ i j, i < 12 → j < 12 → σ'.1 141 (12 * i + j) = if i = n ∨ j = n then 0 else σ.1 141 (12 * i + j)) → (∀ k j, ¬ ((k = 132 ∧ j = 0) ∨ ((k = 135 ∨ k = 136 ∨ k = 137) ∧ j = n) ∨ k = 141) → σ'.1 k j = σ.1 k j) → Q (nI n) σ') : p_X8_comes d [aN 132, aI x1, aI x2, aI x3] σ Q := by
  refine e_X8_comes d _ _ _ (b_X8_comes_0 d _ _ _ σ Q (fun z1 e1 => ?_))
  rw [h0] at e1
  subst e1
  rw [h0, nI_1, nI_clamp (by omega)]
  refine ⟨vp_in_nI hn (by omega), fun σ3 e3 => ⟨vp_in_nI hn (by omega), vp_in_nI hn (by omega), fun σ6 e6 => ?_⟩⟩
  have rd : ∀ k j, ¬ ((k = 132 ∧ j = 0) ∨ ((k = 135 ∨ k = 136 ∨ k = 137) ∧ j = n)) → σ6.1 k j = σ.1 k j := fun k j hk => by rw [e6, rd_o (by omega), rd_o (by omega), e3, rd_o (by omega), rd_o (by omega)]
  have L := up_loop (fun t => ∀ σ1, (∀ k j, k ≠ 141 → σ1.1 k j = σ6.1 k j) → (∀ i j, i < 12 → j < 12 → σ1.1 141 (12 * i + j) = if (i = n ∧ j < t) ∨ (j = n ∧ i < t) then 0 else σ.1 141 (12 * i + j)) → g_X8_comes d 43 [(0, aN 132), (4, aI (nI n)), (5, aI (nI t))] σ1 Q) 12 ?_ ?_
  · exact L σ6 (fun _ _ _ => rfl) (fun i j hi hj => by rw [if_neg (by omega), rd _ _ (by omega)])
  · intro σ1 k1 m1
    refine b_X8_comes_43 d _ _ σ1 Q ⟨fun _ => h σ1 ?_ ?_ ?_ ?_ (fun i j hi hj => ?_) (fun k j hk => ?_), fun c => absurd (by decide) c⟩
    · rw [k1 _ _ (by omega), e6, rd_o (by omega), rd_o (by omega), e3, rd_o (by omega), rd_s]
    · rw [k1 _ _ (by omega), e6, rd_o (by omega), rd_o (by omega), e3, rd_s]
    · rw [k1 _ _ (by omega), e6, rd_o (by omega), rd_s]
    · rw [k1 _ _ (by omega), e6, rd_s]
    · rw [m1 i j hi hj]
      by_cases e : i = n ∨ j = n
      · rw [if_pos e, if_pos (by omega)]
      · rw [if_neg e, if_neg (by omega)]
    · rw [k1 _ _ (by omega), rd _ _ (by omega)]
  · intro t ht ih σ1 k1 m1
    refine b_X8_comes_43 d _ _ σ1 Q ⟨fun c => absurd ((le_nI (n := 12) (by omega) (by omega)).mp c) (by omega), fun _ => ?_⟩
    rw [ix12, ix12, nI_clamp (by omega), nI_clamp (by omega), nI_1]
    refine ⟨vp_in_nI (by omega) (by omega), vp_in_nI (by omega) (by omega), fun σ4 e4 => ih σ4 (fun k j hk => ?_) (fun i j hi hj => ?_)⟩
    · rw [e4, rd_o (by omega), rd_o (by omega)]; exact k1 k j hk
    · rw [e4, tk_up_at]
      by_cases c1 : 12 * i + j = 12 * t + n
      · rw [if_pos ⟨rfl, c1⟩, if_pos (by omega)]
      · rw [if_neg (by omega), tk_up_at]
        by_cases c2 : 12 * i + j = 12 * n + t
        · rw [if_pos ⟨rfl, c2⟩, if_pos (by omega)]
        · rw [if_neg (by omega), m1 i j hi hj]
          by_cases e : (i = n ∧ j < t) ∨ (j = n ∧ i < t)
          · rw [if_pos e, if_pos (by omega)]
          · rw [if_neg e, if_neg (by omega)]
