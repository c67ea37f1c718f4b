/-! print: what is up -/
def texP (r : Int32) (x y : Nat) : Prop := (r = 1 ∧ (x + y) % 2 = 0) ∨ (r = 2 ∧ x % 2 = 0) ∨ (r = 3 ∧ y % 2 = 0) ∨ (r ≠ 0 ∧ r ≠ 1 ∧ r ≠ 2 ∧ r ≠ 3)
def prP (a : Ab) (i : Nat) (r : Int32) (x y : Nat) : Prop := pinP a i x y ∧ (aKi a i ≠ 1 ∨ x = aX a i 0 ∨ x = aX a i 1 ∨ y = aY a i 0 ∨ y = aY a i 1 ∨ texP r x y)
def upS (a : Ab) (S n x y : Nat) : Prop := ∃ i, i < n ∧ S.testBit i = true ∧ ∃ r, texR a i r ∧ prP a i r x y
theorem upS_0 (a : Ab) (S x y : Nat) : ¬ upS a S 0 x y := fun ⟨i, hi, _⟩ => by omega
theorem upS_s {a : Ab} {S n x y : Nat} {r : Int32} (hn : n < aN0 a) (h : S.testBit n = true) (hr : texR a n r) : upS a S (n + 1) x y ↔ upS a S n x y ∨ prP a n r x y := by
  constructor
  · rintro ⟨i, i1, i2, r', i3, i4⟩
    by_cases e : i = n
    · subst e; rw [texR_uq hn i3 hr] at i4; exact Or.inr i4
    · exact Or.inl ⟨i, by omega, i2, r', i3, i4⟩
  · rintro (⟨i, i1, i2, i3⟩ | q)
    · exact ⟨i, by omega, i2, i3⟩
    · exact ⟨n, by omega, h, r, hr, q⟩
theorem upS_n {a : Ab} {S n x y : Nat} (h : S.testBit n = false) : upS a S (n + 1) x y ↔ upS a S n x y := by
  constructor
  · rintro ⟨i, i1, i2, i3⟩
    by_cases e : i = n
    · subst e; rw [h] at i2; cases i2
    · exact ⟨i, by omega, i2, i3⟩
  · rintro ⟨i, i1, i2, i3⟩
    exact ⟨i, by omega, i2, i3⟩
theorem b_whole : ∀ x, x < 32 → bt 16777215 x = decide (x < 24) := by decide +kernel
theorem b_even : ∀ x, x < 24 → bt 5592405 x = decide (x % 2 = 0) := by decide +kernel
theorem b_oddr : ∀ x, x < 24 → bt (-5592406) x = decide (x % 2 = 1) := by decide +kernel
theorem s_rowT (d : Nat) (r : Int32) {y : Nat} (hy : y < 24) (σ : tk_S) (Q : Int32 → tk_S → Prop) (h : ∀ R : Int32, (∀ x, x < 24 → bt R x = pB (texP r x y)) → Q R σ) : p_X7_rowOfTexture d [aI r, aI (nI y)] σ Q := by
  have n01 : ¬ (0 : Int32) = 1 := by decide
  have n02 : ¬ (0 : Int32) = 2 := by decide
  have n03 : ¬ (0 : Int32) = 3 := by decide
  have n12 : ¬ (1 : Int32) = 2 := by decide
  have n13 : ¬ (1 : Int32) = 3 := by decide
  have n23 : ¬ (2 : Int32) = 3 := by decide
  have n21 : ¬ (2 : Int32) = 1 := by decide
  have n31 : ¬ (3 : Int32) = 1 := by decide
  have n32 : ¬ (3 : Int32) = 2 := by decide
  have key : ∀ x2 : Int32, (x2 = 0 ↔ y % 2 = 1) → g_X7_rowOfTexture d 12 [(0, aI r), (2, aI x2)] σ Q := by
    intro x2 hx
    refine b_X7_rowOfTexture_12 d _ _ σ Q ⟨fun e => h _ (fun x hx' => ?_), fun e => ⟨fun e2 => h _ (fun x hx' => ?_), fun e2 => h _ (fun x hx' => ?_)⟩, fun e => h _ (fun x hx' => ?_), fun e => ⟨fun e2 => h _ (fun x hx' => ?_), fun e2 => h _ (fun x hx' => ?_)⟩, fun e0 e1 e2 e3 => h _ (fun x hx' => ?_)⟩
    · subst e; rw [b_0]; symm; rw [pB_f]; unfold texP; simp [n01, n02, n03]
    · subst e
      rw [b_oddr x hx', ← Bool.decide_coe (pB _)]
      refine decide_eq_decide.mpr ?_
      rw [pB_t]
      unfold texP
      have := hx.mp e2
      simp only [n12, n13, true_and, false_and, false_or, or_false, ne_eq, not_true_eq_false, and_false]
      omega
    · subst e
      rw [b_even x hx', ← Bool.decide_coe (pB _)]
      refine decide_eq_decide.mpr ?_
      rw [pB_t]
      unfold texP
      have : ¬ y % 2 = 1 := fun q => e2 (hx.mpr q)
      simp only [n12, n13, true_and, false_and, false_or, or_false, ne_eq, not_true_eq_false, and_false]
      omega
    · subst e
      rw [b_even x hx', ← Bool.decide_coe (pB _)]
      refine decide_eq_decide.mpr ?_
      rw [pB_t]
      unfold texP
      simp only [n21, n23, true_and, false_and, false_or, or_false, ne_eq, not_true_eq_false, and_false]
    · subst e
      rw [b_0]; symm; rw [pB_f]
      unfold texP
      have := hx.mp e2
      simp only [n31, n32, true_and, false_and, false_or, or_false, ne_eq, not_true_eq_false, and_false]
      omega
    · subst e
      rw [b_whole x (by omega), decide_eq_true hx']; symm; rw [pB_t]
      unfold texP
      have : ¬ y % 2 = 1 := fun q => e2 (hx.mpr q)
      exact Or.inr (Or.inr (Or.inl ⟨rfl, by omega⟩))
    · rw [b_whole x (by omega), decide_eq_true hx']; symm; rw [pB_t]
      exact Or.inr (Or.inr (Or.inr ⟨e0, e1, e2, e3⟩))
  refine e_X7_rowOfTexture d _ _ (b_X7_rowOfTexture_0 d _ _ σ Q ?_)
  rw [odd2 y (by omega), show (0 : Int32) = nI 0 from rfl, nI_eq (by omega) (by omega)]
  exact ⟨fun q => key (nI 0) ⟨fun _ => by omega, fun _ => rfl⟩, fun q => key 1 ⟨fun v => absurd v (by decide), fun v => by omega⟩⟩
set_option maxHeartbeats 1000000 in
theorem s_press (d : Nat) (a : Ab) (i : Nat) (hi : i < 12) (hW : WFs a i) (σ : tk_S) (hX : XIs a σ i) (r : Int32) (U : Nat → Nat → Prop) (hU : xrow σ 53 U) (Q : tk_S → Prop) (h : ∀ σ', Fr (frK 53) σ σ' → σ'.2 = σ.2 → xrow σ' 53 (fun x y => U x y ∨ prP a i r x y) → Q σ') : p_X7_press (d + 1) [aN 0, aN (1 + 71 + 5 * i), aI r] σ Q := by
  obtain ⟨x0, x1, x2, x3, x4⟩ := hX
  have hki := hW.1
  rw [show 72 + 5 * i = 1 + 71 + 5 * i by omega] at x0 x1 x2 x3 x4
  have p24 : ∀ x y, pinP a i x y → x < 24 ∧ y < 24 := fun x y q => ⟨q.1, q.2.1⟩
  refine e_X7_press (d + 1) _ _ (b_X7_press_0 d _ (tk_shp hi) _ σ Q ⟨fun q z2 e2 z3 e3 => ?_, fun q => ?_⟩)
  · have hk : aKi a i = 1 := (nI_eq (b := 1) (by omega) (by omega)).mp (x0.symm.trans q)
    obtain ⟨w1, w2, w3⟩ := hW.2.2.2.2.2.2.1 hk
    have q0 := hW.2.2.2.2.2.1 0 (by omega)
    have q1 := hW.2.2.2.2.2.1 1 (by omega)
    have c0 := x3 0 (by omega)
    have c1 := x3 1 (by omega)
    have k0 : (0 : Int32).toNatClampNeg = 0 := rfl
    have k1 : (1 : Int32).toNatClampNeg = 1 := rfl
    rw [k0, k1, c0.1, c1.1] at e2
    rw [k0, c0.2] at e3
    subst e3
    have sd : ∀ x, bt z2 x = (decide (x = aX a i 0) || decide (x = aX a i 1)) := fun x => by rw [e2, b_or, bt_1 (by omega), bt_1 (by omega)]
    have gp : ∀ x y, pinP a i x y ↔ groundP a i x y ∧ x < 24 ∧ y < 24 := fun x y => by
      unfold pinP
      rw [hk]
      constructor
      · rintro ⟨v1, v2, v3 | v3 | v3⟩
        · omega
        · exact ⟨v3.2, v1, v2⟩
        · omega
      · rintro ⟨v1, v2, v3⟩
        exact ⟨v2, v3, Or.inr (Or.inl ⟨rfl, v1⟩)⟩
    have L := up_from (fun y => ∀ σ1, Fr (frK 53) σ σ1 → σ1.2 = σ.2 → xrow σ1 53 (fun x y' => U x y' ∨ (prP a i r x y' ∧ y' < y)) → g_X7_press (d + 1) 46 [(0, aN 0), (1, aN (1 + 71 + 5 * i)), (2, aI r), (3, aI z2), (4, aI (nI y))] σ1 Q) (aY a i 1 + 1) (aY a i 0) (by omega) ?_ ?_
    · refine L σ (Fr.rf σ) rfl (hU.c (fun x y _ _ => ⟨fun v => Or.inl v, fun v => v.resolve_right (fun z => ?_)⟩))
      have := ((gp x y).mp z.1.1).1.2.2.1
      omega
    · intro σ1 f1 g1 r1
      refine b_X7_press_46 d _ (tk_shp hi) _ _ _ σ1 Q ⟨fun _ => h σ1 f1 g1 (r1.c (fun x y _ _ => ?_)), fun v => absurd ?_ v⟩
      · constructor
        · rintro (v | v)
          · exact Or.inl v
          · exact Or.inr v.1
        · rintro (v | v)
          · exact Or.inl v
          · exact Or.inr ⟨v, by have := ((gp x y).mp v.1).1.2.2.2; omega⟩
      · rw [f1 _ _ (by unfold frK; omega), k1, c1.2]
        exact (lt_nI (by omega) (by omega)).mpr (by omega)
    · intro y y1 y2 ih σ1 f1 g1 r1
      have hy24 : y < 24 := by omega
      have next : ∀ R : Int32, (∀ x, pinP a i x y → (bt R x = true ↔ (x = aX a i 0 ∨ x = aX a i 1 ∨ y = aY a i 0 ∨ y = aY a i 1 ∨ texP r x y))) → g_X7_press (d + 1) 107 [(0, aN 0), (1, aN (1 + 71 + 5 * i)), (2, aI r), (3, aI z2), (4, aI (nI y)), (6, aI R)] σ1 Q := by
        intro R hR
        refine b_X7_press_107 d _ (tk_shp hi) _ _ _ _ σ1 Q ⟨vp_in_nI hy24 (by omega), vp_in_nI hy24 (by omega), vp_in_nI hy24 (by omega), ?_⟩
        rw [nI_clamp (by omega), nI_1]
        refine ih _ (f1.tr (Fr.up _ _ rfl)) g1 (fun x y' hy' => ?_)
        by_cases e : y' = y
        · subst e
          rw [rd_s, b_or, r1 x y' hy', b_and, f1 _ _ (by unfold frK; omega), show 1 + 71 + 5 * i + 3 + 1 = 1 + 71 + 5 * i + 4 by omega, x4 x y' hy']
          apply Bool.eq_iff_iff.mpr
          rw [Bool.or_eq_true, Bool.and_eq_true, pB_t, pB_t, pB_t]
          constructor
          · rintro (v | ⟨v1, v2⟩)
            · refine ⟨v.1, ?_⟩
              rcases v.2 with z | z
              · exact Or.inl z
              · exact Or.inr ⟨z.1, by omega⟩
            · exact ⟨v1.1, Or.inr ⟨⟨v1, Or.inr ((hR x v1).mp v2)⟩, by omega⟩⟩
          · rintro ⟨v1, v2 | ⟨v2, _⟩⟩
            · exact Or.inl ⟨v1, Or.inl v2⟩
            · refine Or.inr ⟨v2.1, (hR x v2.1).mpr ?_⟩
              exact v2.2.resolve_left (fun z => z hk)
        · rw [rd_o (by omega), r1 x y' hy']
          refine pB_c ⟨fun v => ⟨v.1, ?_⟩, fun v => ⟨v.1, ?_⟩⟩
          · rcases v.2 with z | z
            · exact Or.inl z
            · exact Or.inr ⟨z.1, by omega⟩
          · rcases v.2 with z | z
            · exact Or.inl z
            · exact Or.inr ⟨z.1, by omega⟩
      refine b_X7_press_46 d _ (tk_shp hi) _ _ _ σ1 Q ?_
      rw [f1 _ _ (by unfold frK; omega), f1 _ _ (by unfold frK; omega), k0, k1, c0.2, c1.2, lt_nI (by omega) (by omega), nI_eq (by omega) (by omega), nI_eq (by omega) (by omega)]
      have whole : y = aY a i 0 ∨ y = aY a i 1 → g_X7_press (d + 1) 107 [(0, aN 0), (1, aN (1 + 71 + 5 * i)), (2, aI r), (3, aI z2), (4, aI (nI y)), (6, aI 16777215)] σ1 Q := by
        intro hq
        refine next _ (fun x hx => ?_)
        rw [b_whole x (by have := (p24 x y hx).1; omega), decide_eq_true (p24 x y hx).1]
        exact ⟨fun _ => by rcases hq with v | v <;> simp [v], fun _ => rfl⟩
      refine ⟨fun v => by omega, fun _ => ⟨fun v => whole (Or.inl v), fun v => ⟨fun v2 => ?_, fun v2 => whole (Or.inr v2)⟩⟩⟩
      refine s_rowT d r hy24 σ1 _ (fun R hR z9 e9 => next z9 (fun x hx => ?_))
      rw [e9, b_or, sd x, hR x (p24 x y hx).1, Bool.or_eq_true, Bool.or_eq_true, decide_eq_true_iff, decide_eq_true_iff, pB_t]
      constructor
      · rintro ((z | z) | z)
        · exact Or.inl z
        · exact Or.inr (Or.inl z)
        · exact Or.inr (Or.inr (Or.inr (Or.inr z)))
      · rintro (z | z | z | z | z)
        · exact Or.inl (Or.inl z)
        · exact Or.inl (Or.inr z)
        · exact absurd z v
        · exact absurd z v2
        · exact Or.inr z
  · have hk : aKi a i ≠ 1 := fun z => q (x0.trans (by rw [z]; rfl))
    refine s_X2_join d 52 (1 + 71 + 5 * i + 3) rfl (tk_s3 (tk_shp hi)) σ _ (h _ (Fr.fill σ _ (fun j => rfl)) rfl (fun x y hy => ?_))
    rw [tk_fill_s]
    show bt (if y < 24 then σ.1 53 y ||| σ.1 (1 + 71 + 5 * i + 3 + 1) y else σ.1 53 y) x = _
    rw [if_pos hy, b_or, hU x y hy, show 1 + 71 + 5 * i + 3 + 1 = 1 + 71 + 5 * i + 4 by omega, x4 x y hy]
    apply Bool.eq_iff_iff.mpr
    rw [Bool.or_eq_true, pB_t, pB_t, pB_t]
    constructor
    · rintro (v | v)
      · exact ⟨v.1, Or.inl v.2⟩
      · exact ⟨v.1, Or.inr ⟨v, Or.inl hk⟩⟩
    · rintro ⟨v1, v2 | v2⟩
      · exact Or.inl ⟨v1, v2⟩
      · exact Or.inr v2.1
theorem s_X8_has (d i : Nat) (hi : i < 12) {x y : Nat} (hx : x < 24) (hy : y < 24) (S : Nat → Nat → Prop) (σ : tk_S) (hS : mpin σ i S) (Q : Int32 → tk_S → Prop) (h : Q (b2i (pB (S x y))) σ) : p_X8_has d [aN 132, aI (nI i), aI (nI x), aI (nI y)] σ Q := by
  refine e_X8_has d _ _ _ (b_X8_has_0 d _ _ _ σ Q ?_)
  rw [ix576, nI_clamp (by omega), hS x y hx hy]
  exact ⟨vp_in_nI (by omega) (by omega), b2i_nar _, h⟩
set_option maxHeartbeats 1000000 in
theorem s_X8_isUp (d : Nat) (a : Ab) (i : Nat) (hi : i < 12) (hW : WFs a i) (σ : tk_S) (hC : mco a σ i) (hS : mpin σ i (pinP a i)) (r : Int32) {x y : Nat} (hx : x < 24) (hy : y < 24) (Q : Int32 → tk_S → Prop) (h : Q (b2i (pB (prP a i r x y))) σ) : p_X8_isUp (d + 1) [aN 132, aI (nI i), aI (nI x), aI (nI y), aI r] σ Q := by
  have hki := hW.1
  have w4 := hW.2.2.2.1
  refine e_X8_isUp (d + 1) _ _ _ _ (b_X8_isUp_0 d _ _ _ _ σ Q ?_)
  have yes : prP a i r x y → Q 1 σ := fun q => by rw [pB_t.mpr q] at h; exact h
  have no : ¬ prP a i r x y → Q 0 σ := fun q => by rw [pB_f.mpr q] at h; exact h
  refine s_X8_has d i hi hx hy (pinP a i) σ hS _ ⟨fun q z5 e5 => ⟨vp_in_nI hi (by omega), ?_⟩, fun q => no (fun v => pB_f.mp (b2i_0.mp q) v.1)⟩
  have pin := pB_t.mp (b2i_n.mp q)
  rw [e8] at e5
  subst e5
  rw [nI_clamp (by omega), hC.1, show (1 : Int32) = nI 1 from rfl, nI_eq (by omega) (by omega)]
  refine ⟨fun v => yes ⟨pin, Or.inl v⟩, fun hk => ⟨vp_in_nI (by omega) (by omega), ?_⟩⟩
  obtain ⟨w1, w2, w3⟩ := hW.2.2.2.2.2.2.1 hk
  have q0 := hW.2.2.2.2.2.1 0 (by omega)
  have q1 := hW.2.2.2.2.2.1 1 (by omega)
  have c0 := hC.2.2 0 (by omega)
  have c1 := hC.2.2 1 (by omega)
  rw [Nat.add_zero] at c0
  rw [nI_add, nI_clamp (by omega), nI_clamp (by omega), c0.1, c0.2, c1.1, c1.2, nI_eq (by omega) (by omega), nI_eq (by omega) (by omega), nI_eq (by omega) (by omega), nI_eq (by omega) (by omega), nI_add, odd2 (x + y) (by omega), odd2 x (by omega), odd2 y (by omega)]
  refine ⟨fun v => yes ⟨pin, Or.inr (Or.inl v)⟩, fun v1 => ⟨vp_in_nI (by omega) (by omega), fun v => yes ⟨pin, Or.inr (Or.inr (Or.inl v))⟩, fun v2 => ⟨vp_in_nI (by omega) (by omega), fun v => yes ⟨pin, Or.inr (Or.inr (Or.inr (Or.inl v)))⟩, fun v3 => ⟨vp_in_nI (by omega) (by omega), fun v4 => ?_, fun v => yes ⟨pin, Or.inr (Or.inr (Or.inr (Or.inr (Or.inl v))))⟩⟩⟩⟩⟩
  have pt : prP a i r x y ↔ texP r x y := ⟨fun v => by
    rcases v.2 with z | z | z | z | z | z
    · exact absurd hk z
    · exact absurd z v1
    · exact absurd z v2
    · exact absurd z v3
    · exact absurd z v4
    · exact z, fun v => ⟨pin, Or.inr (Or.inr (Or.inr (Or.inr (Or.inr v))))⟩⟩
  have n1 : nI 1 = (1 : Int32) := rfl
  have z0 : ∀ n, n < 2 → (nI (n % 2) = 0 ↔ n % 2 = 0) := fun n _ => nI_eq (b := 0) (by omega) (by omega)
  have zz : ∀ n : Nat, (nI (n % 2) = 0 ↔ n % 2 = 0) := fun n => nI_eq (b := 0) (by omega) (by omega)
  rw [zz, zz, zz, n1]
  refine ⟨fun e => no (fun v => ?_), fun e => ⟨fun u => no (fun v => ?_), fun u => yes (pt.mpr (Or.inl ⟨e, u⟩))⟩, fun e => ⟨fun u => no (fun v => ?_), fun u => yes (pt.mpr (Or.inr (Or.inl ⟨e, u⟩)))⟩, fun e => ⟨fun u => no (fun v => ?_), fun u => yes (pt.mpr (Or.inr (Or.inr (Or.inl ⟨e, u⟩))))⟩, fun e0 e1 e2 e3 => yes (pt.mpr (Or.inr (Or.inr (Or.inr ⟨e0, e1, e2, e3⟩))))⟩
  · have v := pt.mp v
    unfold texP at v
    rw [e] at v
    rcases v with z | z | z | z
    · exact absurd z.1 (by decide)
    · exact absurd z.1 (by decide)
    · exact absurd z.1 (by decide)
    · exact absurd rfl z.1
  · have v := pt.mp v
    unfold texP at v
    rw [e] at v
    rcases v with z | z | z | z
    · exact u z.2
    · exact absurd z.1 (by decide)
    · exact absurd z.1 (by decide)
    · exact absurd rfl z.2.1
  · have v := pt.mp v
    unfold texP at v
    rw [e] at v
    rcases v with z | z | z | z
    · exact absurd z.1 (by decide)
    · exact u z.2
    · exact absurd z.1 (by decide)
    · exact absurd rfl z.2.2.1
  · have v := pt.mp v
    unfold texP at v
    rw [e] at v
    rcases v with z | z | z | z
    · exact absurd z.1 (by decide)
    · exact absurd z.1 (by decide)
    · exact u z.2
    · exact absurd rfl z.2.2.2
