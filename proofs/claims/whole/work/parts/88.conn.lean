/-! each shape hangs together when it is printed -/
theorem st_in {x0 x1 n t : Int} (hn : 0 < n) (h1 : x1 - x0 ≤ n) (h2 : -n ≤ x1 - x0) (t0 : 0 ≤ t) (tn : t ≤ n) (b0 : 0 ≤ x0 ∧ x0 < 24) (b1 : 0 ≤ x1 ∧ x1 < 24) : 0 ≤ x0 + (2 * t * (x1 - x0) + n) / (2 * n) ∧ x0 + (2 * t * (x1 - x0) + n) / (2 * n) < 24 := by
  have lo := div_lo (a := 2 * t * (x1 - x0) + n) (n := 2 * n) (by omega)
  have hi := div_hi (a := 2 * t * (x1 - x0) + n) (n := 2 * n) (by omega)
  generalize (2 * t * (x1 - x0) + n) / (2 * n) = q at lo hi ⊢
  have hdx : x1 - x0 ≤ 23 ∧ -23 ≤ x1 - x0 := by omega
  generalize hd : x1 - x0 = dx at *
  rcases Int.lt_or_le dx 0 with z | z
  · have a1 : t * dx ≤ 0 := Int.mul_nonpos_of_nonneg_of_nonpos t0 (by omega)
    have a2 : n * dx ≤ t * dx := Int.mul_le_mul_of_nonpos_right tn (by omega)
    have e1 : 2 * t * dx = 2 * (t * dx) := Int.mul_assoc 2 t dx
    have e2 : q * (2 * n) = 2 * (q * n) := by rw [← Int.mul_assoc, Int.mul_comm q 2, Int.mul_assoc]
    rw [e1, e2] at lo hi
    have q0 : q ≤ 0 := by
      rcases Int.lt_or_le 0 q with v | v
      · have : n ≤ q * n := by
          have := Int.mul_le_mul_of_nonneg_right (show (1 : Int) ≤ q by omega) (show (0 : Int) ≤ n by omega)
          rw [Int.one_mul] at this; exact this
        omega
      · exact v
    have q1 : dx ≤ q := by
      rcases Int.lt_or_le q dx with v | v
      · have : (q + 1) * n ≤ dx * n := Int.mul_le_mul_of_nonneg_right (by omega) (by omega)
        rw [Int.add_mul, Int.one_mul, Int.mul_comm dx n] at this
        omega
      · exact v
    omega
  · have a1 : 0 ≤ t * dx := Int.mul_nonneg t0 z
    have a2 : t * dx ≤ n * dx := Int.mul_le_mul_of_nonneg_right tn z
    have e1 : 2 * t * dx = 2 * (t * dx) := Int.mul_assoc 2 t dx
    have e2 : q * (2 * n) = 2 * (q * n) := by rw [← Int.mul_assoc, Int.mul_comm q 2, Int.mul_assoc]
    rw [e1, e2] at lo hi
    have q0 : 0 ≤ q := by
      rcases Int.lt_or_le q 0 with v | v
      · have : (q + 1) * n ≤ 0 * n := Int.mul_le_mul_of_nonneg_right (by omega) (by omega)
        rw [Int.add_mul, Int.one_mul, Int.zero_mul] at this
        omega
      · exact v
    have q1 : q ≤ dx := by
      rcases Int.lt_or_le dx q with v | v
      · have : (dx + 1) * n ≤ q * n := Int.mul_le_mul_of_nonneg_right (by omega) (by omega)
        rw [Int.add_mul, Int.one_mul, Int.mul_comm dx n] at this
        omega
      · exact v
    omega
theorem st_near {x0 dx n t : Int} (hn : 0 < n) (h1 : dx ≤ n) (h2 : -n ≤ dx) : x0 + (2 * t * dx + n) / (2 * n) ≤ x0 + (2 * (t + 1) * dx + n) / (2 * n) + 1 ∧ x0 + (2 * (t + 1) * dx + n) / (2 * n) ≤ x0 + (2 * t * dx + n) / (2 * n) + 1 := by
  have e : 2 * (t + 1) * dx = 2 * t * dx + 2 * dx := by rw [Int.mul_add, Int.add_mul]; omega
  rw [e]
  generalize 2 * t * dx = m
  have lo := div_lo (a := m + n) (n := 2 * n) (by omega)
  have hi := div_hi (a := m + n) (n := 2 * n) (by omega)
  have lo2 := div_lo (a := m + 2 * dx + n) (n := 2 * n) (by omega)
  have hi2 := div_hi (a := m + 2 * dx + n) (n := 2 * n) (by omega)
  generalize (m + n) / (2 * n) = q at *
  generalize (m + 2 * dx + n) / (2 * n) = r at *
  have f : ∀ c d : Int, d + 2 ≤ c → d * (2 * n) + 4 * n ≤ c * (2 * n) := fun c d h => by
    have := Int.mul_le_mul_of_nonneg_right h (show (0 : Int) ≤ 2 * n by omega)
    rw [Int.add_mul] at this
    omega
  constructor
  · rcases Int.lt_or_le (r + 1) q with v | v
    · have := f q r (by omega)
      omega
    · omega
  · rcases Int.lt_or_le (q + 1) r with v | v
    · have := f r q (by omega)
      omega
    · omega
theorem st_0 {x0 dx n : Int} (hn : 0 < n) : x0 + (2 * 0 * dx + n) / (2 * n) = x0 := by
  rw [Int.mul_zero, Int.zero_mul, Int.zero_add, div_uq (q := 0) (by omega) (by omega) (by omega), Int.add_zero]
theorem st_n {x0 dx n : Int} (hn : 0 < n) : x0 + (2 * n * dx + n) / (2 * n) = x0 + dx := by
  have e : 2 * n * dx = dx * (2 * n) := Int.mul_comm _ _
  rw [e, div_uq (q := dx) (by omega) (by omega) (by omega)]
section CN
variable {a : Ab} {i : Nat} {u : Nat → Nat → Nat}
/-- a line's pins are joined to its first corner -/
theorem line_conn (hW : WFs a i) (hk : aKi a i = 0) (hu : ∀ x y, pinP a i x y → upP u x y) : ∀ x y, pinP a i x y → joinP u x y (aX a i 0) (aY a i 0) := by
  obtain ⟨w1, w2, w3, w4, w5, w6, w7, w8⟩ := hW
  have mk : ∀ x y, x < 24 → y < 24 → lineP a i (aNc a i) x y → pinP a i x y := fun x y hx hy h => ⟨hx, hy, Or.inl ⟨hk, h⟩⟩
  -- the points of a step
  have pt : ∀ k t, k + 1 < aNc a i → 0 < stN a i k → t ≤ stN a i k → ∃ x y : Nat, x < 24 ∧ y < 24 ∧ (x : Int) = stX a i k t ∧ (y : Int) = stY a i k t := by
    intro k t h1 h2 h3
    have c0 := w6 k (by omega)
    have c1 := w6 (k + 1) h1
    have dn : stN a i k = max (((aX a i (k + 1) : Int) - aX a i k).natAbs) (((aY a i (k + 1) : Int) - aY a i k).natAbs) := rfl
    have bx := st_in (x0 := aX a i k) (x1 := aX a i (k + 1)) (n := stN a i k) (t := t) (by omega) (by omega) (by omega) (by omega) (by omega) (by omega) (by omega)
    have by_ := st_in (x0 := aY a i k) (x1 := aY a i (k + 1)) (n := stN a i k) (t := t) (by omega) (by omega) (by omega) (by omega) (by omega) (by omega) (by omega)
    refine ⟨(stX a i k t).toNat, (stY a i k t).toNat, ?_, ?_, ?_, ?_⟩
    · unfold stX; omega
    · unfold stY; omega
    · unfold stX; omega
    · unfold stY; omega
  have along : ∀ k, k + 1 < aNc a i → 0 < stN a i k → ∀ t, t ≤ stN a i k → ∀ x y : Nat, (x : Int) = stX a i k t → (y : Int) = stY a i k t → joinP u x y (aX a i k) (aY a i k) := by
    intro k h1 h2 t
    have dn : stN a i k = max (((aX a i (k + 1) : Int) - aX a i k).natAbs) (((aY a i (k + 1) : Int) - aY a i k).natAbs) := rfl
    induction t with
    | zero =>
      intro _ x y ex ey
      have e1 : stX a i k 0 = aX a i k := st_0 (by omega)
      have e2 : stY a i k 0 = aY a i k := st_0 (by omega)
      have c0 := w6 k (by omega)
      have ex : x = aX a i k := by omega
      have ey' : y = aY a i k := by omega
      subst ex; subst ey'
      exact join_rf (hu _ _ (mk _ _ c0.1 c0.2 (Or.inr ⟨k, 0, h1, h2, by omega, e1.symm, e2.symm⟩)))
    | succ t ih =>
      intro ht x y ex ey
      obtain ⟨x1, y1, p1, p2, p3, p4⟩ := pt k t h1 h2 (by omega)
      have j := ih (by omega) x1 y1 p3 p4
      obtain ⟨x2, y2, r1, r2, r3, r4⟩ := pt k (t + 1) h1 h2 ht
      have ex2 : x = x2 := by omega
      have ey2 : y = y2 := by omega
      subst ex2; subst ey2
      have nx := st_near (x0 := aX a i k) (dx := (aX a i (k + 1) : Int) - aX a i k) (n := stN a i k) (t := t) (by omega) (by omega) (by omega)
      have ny := st_near (x0 := aY a i k) (dx := (aY a i (k + 1) : Int) - aY a i k) (n := stN a i k) (t := t) (by omega) (by omega) (by omega)
      have sx : stX a i k t = (aX a i k : Int) + (2 * (t : Int) * ((aX a i (k + 1) : Int) - aX a i k) + stN a i k) / (2 * (stN a i k : Int)) := rfl
      have sx' : stX a i k (t + 1) = (aX a i k : Int) + (2 * ((t : Int) + 1) * ((aX a i (k + 1) : Int) - aX a i k) + stN a i k) / (2 * (stN a i k : Int)) := rfl
      have sy : stY a i k t = (aY a i k : Int) + (2 * (t : Int) * ((aY a i (k + 1) : Int) - aY a i k) + stN a i k) / (2 * (stN a i k : Int)) := rfl
      have sy' : stY a i k (t + 1) = (aY a i k : Int) + (2 * ((t : Int) + 1) * ((aY a i (k + 1) : Int) - aY a i k) + stN a i k) / (2 * (stN a i k : Int)) := rfl
      rw [← sx, ← sx'] at nx
      rw [← sy, ← sy'] at ny
      refine join_tr (join_one (hu _ _ (mk _ _ r1 r2 (Or.inr ⟨k, t + 1, h1, h2, ht, ex, ey⟩))) (hu _ _ (mk _ _ p1 p2 (Or.inr ⟨k, t, h1, h2, by omega, p3, p4⟩))) ⟨?_, ?_, ?_, ?_⟩) j
      · omega
      · omega
      · omega
      · omega
  have first : upP u (aX a i 0) (aY a i 0) := hu _ _ (mk _ _ (w6 0 (by omega)).1 (w6 0 (by omega)).2 (Or.inl ⟨rfl, rfl⟩))
  have corner : ∀ k, k < aNc a i → joinP u (aX a i k) (aY a i k) (aX a i 0) (aY a i 0) := by
    intro k
    induction k with
    | zero => intro _; exact join_rf first
    | succ k ih =>
      intro hk1
      have j := ih (by omega)
      have dn : stN a i k = max (((aX a i (k + 1) : Int) - aX a i k).natAbs) (((aY a i (k + 1) : Int) - aY a i k).natAbs) := rfl
      by_cases z : 0 < stN a i k
      · have e1 : stX a i k (stN a i k) = aX a i (k + 1) := by
          have := st_n (x0 := aX a i k) (dx := (aX a i (k + 1) : Int) - aX a i k) (n := stN a i k) (by omega)
          have e : stX a i k (stN a i k) = (aX a i k : Int) + (2 * (stN a i k : Int) * ((aX a i (k + 1) : Int) - aX a i k) + stN a i k) / (2 * (stN a i k : Int)) := rfl
          omega
        have e2 : stY a i k (stN a i k) = aY a i (k + 1) := by
          have := st_n (x0 := aY a i k) (dx := (aY a i (k + 1) : Int) - aY a i k) (n := stN a i k) (by omega)
          have e : stY a i k (stN a i k) = (aY a i k : Int) + (2 * (stN a i k : Int) * ((aY a i (k + 1) : Int) - aY a i k) + stN a i k) / (2 * (stN a i k : Int)) := rfl
          omega
        exact join_tr (along k hk1 z (stN a i k) (Nat.le_refl _) _ _ e1.symm e2.symm) j
      · have ex : aX a i (k + 1) = aX a i k := by omega
        have ey : aY a i (k + 1) = aY a i k := by omega
        rw [ex, ey]; exact j
  rintro x y ⟨hx, hy, h⟩
  rcases h with ⟨_, h⟩ | ⟨q, _⟩ | ⟨q, _⟩
  · rcases h with ⟨rfl, rfl⟩ | ⟨k, t, h1, h2, h3, h4, h5⟩
    · exact join_rf first
    · exact join_tr (along k h1 h2 t h3 x y h4 h5) (corner k (by omega))
  · omega
  · omega
theorem mark_conn (hW : WFs a i) (hk : aKi a i = 2) (hu : ∀ x y, pinP a i x y → upP u x y) : ∀ x y, pinP a i x y → joinP u x y (aX a i 0) (aY a i 0) := by
  have c := hW.2.2.2.2.2.1 0 (by have := hW.2.2.2.1; omega)
  have mid : upP u (aX a i 0) (aY a i 0) := hu _ _ ⟨c.1, c.2, Or.inr (Or.inr ⟨hk, Or.inl ⟨rfl, rfl⟩⟩)⟩
  intro x y h
  refine join_one (hu _ _ h) mid ?_
  obtain ⟨_, _, q | q | q⟩ := h
  · omega
  · omega
  · unfold besideP
    rcases q.2 with v | v | v | v | v <;> omega
theorem ground_conn (hW : WFs a i) (hk : aKi a i = 1) (r : Int32) (hu : ∀ x y, prP a i r x y → upP u x y) : ∀ n x y, x + y = n → prP a i r x y → joinP u x y (aX a i 0) (aY a i 0) := by
  intro n
  induction n using Nat.strongRecOn with
  | _ n ih =>
    intro x y hn h
    have gp : groundP a i x y := by
      obtain ⟨⟨_, _, q | q | q⟩, _⟩ := h
      · omega
      · exact q.2
      · omega
    obtain ⟨g1, g2, g3, g4⟩ := gp
    have hx := h.1.1
    have hy := h.1.2.1
    have go : ∀ x' y', x' ≤ x → y' ≤ y → x ≤ x' + 1 → y ≤ y' + 1 → x' + y' < x + y → aX a i 0 ≤ x' → aY a i 0 ≤ y' → (x' = aX a i 0 ∨ x' = aX a i 1 ∨ y' = aY a i 0 ∨ y' = aY a i 1 ∨ texP r x' y') → joinP u x y (aX a i 0) (aY a i 0) := by
      intro x' y' h1 h2 h3 h4 h5 h6 h7 h8
      have pr : prP a i r x' y' := ⟨⟨by omega, by omega, Or.inr (Or.inl ⟨hk, h6, by omega, h7, by omega⟩)⟩, Or.inr h8⟩
      exact join_tr (join_one (hu _ _ h) (hu _ _ pr) ⟨by omega, by omega, by omega, by omega⟩) (ih (x' + y') (by omega) x' y' rfl pr)
    by_cases ex : x = aX a i 0
    · by_cases ey : y = aY a i 0
      · subst ex; subst ey; exact join_rf (hu _ _ h)
      · exact go x (y - 1) (by omega) (by omega) (by omega) (by omega) (by omega) (by omega) (by omega) (Or.inl ex)
    · by_cases ey : y = aY a i 0
      · exact go (x - 1) y (by omega) (by omega) (by omega) (by omega) (by omega) (by omega) (by omega) (Or.inr (Or.inr (Or.inl ey)))
      · rcases h.2 with q | q | q | q | q | q
        · exact absurd hk q
        · exact absurd q ex
        · exact go x (y - 1) (by omega) (by omega) (by omega) (by omega) (by omega) (by omega) (by omega) (Or.inr (Or.inl q))
        · exact absurd q ey
        · exact go (x - 1) y (by omega) (by omega) (by omega) (by omega) (by omega) (by omega) (by omega) (Or.inr (Or.inr (Or.inr (Or.inl q))))
        · rcases q with ⟨q1, q2⟩ | ⟨q1, q2⟩ | ⟨q1, q2⟩ | q
          · exact go (x - 1) (y - 1) (by omega) (by omega) (by omega) (by omega) (by omega) (by omega) (by omega) (Or.inr (Or.inr (Or.inr (Or.inr (Or.inl ⟨q1, by omega⟩)))))
          · exact go x (y - 1) (by omega) (by omega) (by omega) (by omega) (by omega) (by omega) (by omega) (Or.inr (Or.inr (Or.inr (Or.inr (Or.inr (Or.inl ⟨q1, q2⟩))))))
          · exact go (x - 1) y (by omega) (by omega) (by omega) (by omega) (by omega) (by omega) (by omega) (Or.inr (Or.inr (Or.inr (Or.inr (Or.inr (Or.inr (Or.inl ⟨q1, q2⟩)))))))
          · exact go x (y - 1) (by omega) (by omega) (by omega) (by omega) (by omega) (by omega) (by omega) (Or.inr (Or.inr (Or.inr (Or.inr (Or.inr (Or.inr (Or.inr q)))))))
theorem shape_conn (hW : WFs a i) (r : Int32) (hu : ∀ x y, prP a i r x y → upP u x y) {x y x' y' : Nat} (h : prP a i r x y) (h' : prP a i r x' y') : joinP u x y x' y' := by
  have all : ∀ x y, prP a i r x y → joinP u x y (aX a i 0) (aY a i 0) := by
    have hk := hW.1
    by_cases e1 : aKi a i = 1
    · exact fun x y q => ground_conn hW e1 r hu _ x y rfl q
    · have hu' : ∀ x y, pinP a i x y → upP u x y := fun x y q => hu x y ⟨q, Or.inl e1⟩
      by_cases e0 : aKi a i = 0
      · exact fun x y q => line_conn hW e0 hu' x y q.1
      · exact fun x y q => mark_conn hW (by omega) hu' x y q.1
  exact join_tr (all x y h) (join_sym (all x' y' h'))
end CN
noncomputable def upN (a : Ab) (S : Nat) : Nat → Nat → Nat := fun x y => bn (pB (x < 24 ∧ y < 24 ∧ upS a S (aN0 a) x y))
theorem upN_P {a : Ab} {S x y : Nat} : upP (upN a S) x y ↔ upS a S (aN0 a) x y := by
  unfold upP upN
  rw [bn_1, pB_t]
  constructor
  · exact fun q => q.2.2.2.2
  · rintro ⟨i, i1, i2, r, i3, i4⟩
    exact ⟨i4.1.1, i4.1.2.1, i4.1.1, i4.1.2.1, i, i1, i2, r, i3, i4⟩
theorem thing_12 {a : Ab} (hw : WF a) (S : Nat) : thingN (upN a S) ≤ 12 := by
  have hn := hw.1
  obtain ⟨c, hc⟩ : ∃ c : Nat → Nat, ∀ f, firstP (upN a S) f → c f < aN0 a ∧ S.testBit (c f) = true ∧ ∃ r, texR a (c f) r ∧ prP a (c f) r (f % 24) (f / 24) := by
    have := Classical.skolem.mp (fun f => (by
      by_cases q : firstP (upN a S) f
      · obtain ⟨i, i1, i2, r, i3, i4⟩ := upN_P.mp q.1
        exact ⟨i, fun _ => ⟨i1, i2, r, i3, i4⟩⟩
      · exact ⟨0, fun q1 => absurd q1 q⟩ : ∃ i : Nat, firstP (upN a S) f → i < aN0 a ∧ S.testBit i = true ∧ ∃ r, texR a i r ∧ prP a i r (f % 24) (f / 24)))
    exact this
  refine inj_cnt 576 c 12 _ (fun f _ hf => ?_) (fun f f' _ _ hf hf' hne => fun e => hne ?_)
  · have := (hc f (pB_t.mp hf)).1; omega
  · have h1 := pB_t.mp hf
    have h2 := pB_t.mp hf'
    obtain ⟨a1, a2, r, a3, a4⟩ := hc f h1
    obtain ⟨b1, b2, r', b3, b4⟩ := hc f' h2
    rw [← e] at b3 b4
    rw [texR_uq a1 b3 a3] at b4
    refine first_uq h1 h2 (shape_conn (hw.2.2.2.2.2.1 _ a1) r (fun x y q => upN_P.mpr ⟨c f, a1, a2, r, a3, q⟩) a4 b4)
