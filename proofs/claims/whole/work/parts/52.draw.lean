/-! pins that are put: the reference's array, the class' rows; one at a time, along a step -/
def mpin (σ : tk_S) (i : Nat) (S : Nat → Nat → Prop) : Prop := ∀ x y, x < 24 → y < 24 → σ.1 140 (576 * i + 24 * y + x) = b2i (pB (S x y))
def frP (i : Nat) : Nat → Nat → Prop := fun k j => k = 140 ∧ 576 * i ≤ j ∧ j < 576 * i + 576
def xrow (σ : tk_S) (K : Nat) (S : Nat → Nat → Prop) : Prop := ∀ x y, y < 24 → bt (σ.1 K y) x = pB (x < 24 ∧ S x y)
def frK (K : Nat) : Nat → Nat → Prop := fun k _ => k = K
def ptS (S : Nat → Nat → Prop) (X Y : Int) : Nat → Nat → Prop := fun x y => S x y ∨ ((x : Int) = X ∧ (y : Int) = Y)
theorem mpin.c {σ : tk_S} {i : Nat} {S S' : Nat → Nat → Prop} (h : mpin σ i S) (e : ∀ x y, x < 24 → y < 24 → (S x y ↔ S' x y)) : mpin σ i S' := fun x y hx hy => by rw [← pB_c (e x y hx hy)]; exact h x y hx hy
theorem xrow.c {σ : tk_S} {K : Nat} {S S' : Nat → Nat → Prop} (h : xrow σ K S) (e : ∀ x y, x < 24 → y < 24 → (S x y ↔ S' x y)) : xrow σ K S' := fun x y hy => by
  rw [h x y hy]
  refine pB_c ⟨fun q => ⟨q.1, (e x y q.1 hy).mp q.2⟩, fun q => ⟨q.1, (e x y q.1 hy).mpr q.2⟩⟩
theorem s_X8_puts (d i : Nat) (hi : i < 12) {X Y : Int} (h1 : -100000 ≤ X) (h2 : X ≤ 100000) (h3 : -100000 ≤ Y) (h4 : Y ≤ 100000) (σ : tk_S) (S : Nat → Nat → Prop) (hS : mpin σ i S) (Q : tk_S → Prop) (h : ∀ σ', Fr (frP i) σ σ' → σ'.2 = σ.2 → mpin σ' i (ptS S X Y) → Q σ') : p_X8_puts (d + 2) [aN 132, aI (nI i), aI (iI X), aI (iI Y)] σ Q := by
  refine e_X8_puts (d + 2) _ _ _ (b_X8_puts_0 (d + 1) _ _ _ σ Q ?_)
  refine s_X8_isPin d _ _ σ _ (fun hp => ⟨fun c => absurd c (by decide), fun _ => ?_⟩) (fun hp => ⟨fun _ => h σ (Fr.rf σ) rfl (hS.c (fun x y hx hy => ⟨Or.inl, ?_⟩)), fun c => absurd rfl c⟩)
  · obtain ⟨u, v, hu, hv, e1, e2⟩ := hp
    have eX : X = u := by rw [nI_iI] at e1; exact (iI_eq (by omega) (by omega) (by omega) (by omega)).mp e1
    have eY : Y = v := by rw [nI_iI] at e2; exact (iI_eq (by omega) (by omega) (by omega) (by omega)).mp e2
    rw [e1, e2, ix576, nI_clamp (by omega)]
    refine ⟨vp_in_nI (by omega) (by omega), h _ (Fr.up σ _ (by unfold frP; omega)) rfl (fun x y hx hy => ?_)⟩
    rw [tk_up_at]
    by_cases e : x = u ∧ y = v
    · rw [if_pos (by omega), pB_t.mpr (show ptS S X Y x y from Or.inr ⟨by omega, by omega⟩)]; rfl
    · rw [if_neg (by omega), hS x y hx hy]
      refine congrArg b2i (pB_c ⟨Or.inl, fun q => ?_⟩)
      rcases q with q | q
      · exact q
      · exact absurd ⟨by omega, by omega⟩ e
  · rintro (q | ⟨q1, q2⟩)
    · exact q
    · exact absurd ⟨x, y, hx, hy, by rw [← q1, nI_iI], by rw [← q2, nI_iI]⟩ hp
theorem s_raise (d k : Nat) (hk : tk_sh k = tk_pins) {X Y : Int} (h1 : -100000 ≤ X) (h2 : X ≤ 100000) (h3 : -100000 ≤ Y) (h4 : Y ≤ 100000) (σ : tk_S) (S : Nat → Nat → Prop) (hS : xrow σ (k + 1) S) (Q : tk_S → Prop) (h : ∀ σ', Fr (frK (k + 1)) σ σ' → σ'.2 = σ.2 → xrow σ' (k + 1) (ptS S X Y) → Q σ') : p_X2_raise (d + 1) [aN k, aI (iI X), aI (iI Y)] σ Q := by
  refine s_X2_raise d k hk _ _ σ Q (fun u v hu hv e1 e2 => ?_) (fun hp => h σ (Fr.rf σ) rfl (hS.c (fun x y hx hy => ⟨Or.inl, ?_⟩)))
  · have eX : X = u := by rw [nI_iI] at e1; exact (iI_eq (by omega) (by omega) (by omega) (by omega)).mp e1
    have eY : Y = v := by rw [nI_iI] at e2; exact (iI_eq (by omega) (by omega) (by omega) (by omega)).mp e2
    refine h _ (Fr.up σ _ rfl) rfl (fun x y hy => ?_)
    rw [tk_up_at]
    by_cases ey : y = v
    · rw [if_pos ⟨rfl, ey⟩, b_or, bt_1 (by omega), ← ey, hS x y hy]
      by_cases ex : x = u
      · rw [decide_eq_true ex, Bool.or_true, pB_t.mpr (show x < 24 ∧ ptS S X Y x y from ⟨by omega, Or.inr ⟨by omega, by omega⟩⟩)]
      · rw [decide_eq_false ex, Bool.or_false]
        refine pB_c ⟨fun q => ⟨q.1, Or.inl q.2⟩, fun q => ⟨q.1, q.2.resolve_right (fun z => ex (by omega))⟩⟩
    · rw [if_neg (by omega), hS x y hy]
      exact pB_c ⟨fun q => ⟨q.1, Or.inl q.2⟩, fun q => ⟨q.1, q.2.resolve_right (fun z => ey (by omega))⟩⟩
  · rintro (q | ⟨q1, q2⟩)
    · exact q
    · exact absurd ⟨x, y, hx, hy, by rw [← q1, nI_iI], by rw [← q2, nI_iI]⟩ hp
/-- along a step: the place of the t-th -/
def stp (x0 dx : Int) (n t : Nat) : Int := x0 + (2 * (t : Int) * dx + n) / (2 * (n : Int))
def stS (S : Nat → Nat → Prop) (x0 y0 dx dy : Int) (n m : Nat) : Nat → Nat → Prop := fun x y => S x y ∨ ∃ t, t < m ∧ (x : Int) = stp x0 dx n t ∧ (y : Int) = stp y0 dy n t
theorem mul_bd {t : Nat} {z : Int} (h1 : t ≤ 30) (h2 : -30 ≤ z) (h3 : z ≤ 30) : -1800 ≤ 2 * (t : Int) * z ∧ 2 * (t : Int) * z ≤ 1800 := by
  have h : (2 * (t : Int) * z).natAbs ≤ 60 * 30 := by
    rw [Int.natAbs_mul]
    exact Nat.mul_le_mul (by omega) (by omega)
  omega
theorem div_bd {a n : Int} (hn : 0 < n) (h1 : -2000 ≤ a) (h2 : a ≤ 2000) : -2000 ≤ a / n ∧ a / n ≤ 2000 := by
  constructor
  · exact (Int.le_ediv_iff_mul_le hn).mpr (by omega)
  · have : a / n < 2001 := (Int.ediv_lt_iff_lt_mul hn).mpr (by omega)
    omega
theorem num_e (t n : Nat) (dx : Int) : ((2 * nI t) * iI dx) + nI n = iI (2 * (t : Int) * dx + n) := by
  show ((iI 2 * nI t) * iI dx) + nI n = _
  rw [nI_iI, nI_iI, iI_mul, iI_mul, iI_add]
theorem den_e (n : Nat) : 2 * nI n = iI (2 * (n : Int)) := by
  show iI 2 * nI n = _
  rw [nI_iI, iI_mul]
theorem stS_suc {S : Nat → Nat → Prop} {x0 y0 dx dy : Int} {n m : Nat} (x y : Nat) : ptS (stS S x0 y0 dx dy n m) (stp x0 dx n m) (stp y0 dy n m) x y ↔ stS S x0 y0 dx dy n (m + 1) x y := by
  constructor
  · rintro ((q | ⟨t, h1, h2⟩) | q)
    · exact Or.inl q
    · exact Or.inr ⟨t, by omega, h2⟩
    · exact Or.inr ⟨m, by omega, q⟩
  · rintro (q | ⟨t, h1, h2⟩)
    · exact Or.inl (Or.inl q)
    · by_cases e : t = m
      · subst e; exact Or.inr h2
      · exact Or.inl (Or.inr ⟨t, by omega, h2⟩)
set_option maxHeartbeats 1000000 in
theorem s_X8_steps (d i : Nat) (hi : i < 12) {x0 y0 dx dy : Int} (b1 : 0 ≤ x0 ∧ x0 ≤ 30) (b2 : 0 ≤ y0 ∧ y0 ≤ 30) (b3 : -30 ≤ dx ∧ dx ≤ 30) (b4 : -30 ≤ dy ∧ dy ≤ 30) (σ : tk_S) (S : Nat → Nat → Prop) (hS : mpin σ i S) (Q : tk_S → Prop) (n : Nat) (hn : n = max dx.natAbs dy.natAbs) (h : ∀ σ', Fr (frP i) σ σ' → σ'.2 = σ.2 → mpin σ' i (stS S x0 y0 dx dy n (if 0 < n then n + 1 else 0)) → Q σ') : p_X8_steps (d + 3) [aN 132, aI (nI i), aI (iI x0), aI (iI y0), aI (iI dx), aI (iI dy)] σ Q := by
  have hn30 : n ≤ 30 := by omega
  have L : ∀ σ1, Fr (frP i) σ σ1 → σ1.2 = σ.2 → mpin σ1 i (stS S x0 y0 dx dy n 0) → g_X8_steps (d + 3) 31 [(0, aN 132), (1, aI (nI i)), (2, aI (iI x0)), (3, aI (iI y0)), (4, aI (iI dx)), (5, aI (iI dy)), (6, aI (nI n)), (7, aI (nI 0))] σ1 Q := by
    refine up_loop (fun t => ∀ σ1, Fr (frP i) σ σ1 → σ1.2 = σ.2 → mpin σ1 i (stS S x0 y0 dx dy n (if 0 < n then t else 0)) → g_X8_steps (d + 3) 31 [(0, aN 132), (1, aI (nI i)), (2, aI (iI x0)), (3, aI (iI y0)), (4, aI (iI dx)), (5, aI (iI dy)), (6, aI (nI n)), (7, aI (nI t))] σ1 Q) (n + 1) ?_ ?_ |> (fun z σ1 f1 g1 m1 => z σ1 f1 g1 (by rw [ite_self]; exact m1))
    · intro σ1 f1 g1 m1
      exact b_X8_steps_31 (d + 2) _ _ _ _ _ _ _ σ1 Q ⟨fun _ => h σ1 f1 g1 m1, fun c => absurd ((lt_nI (by omega) (by omega)).mpr (by omega)) c⟩
    · intro t ht ih σ1 f1 g1 m1
      refine b_X8_steps_31 (d + 2) _ _ _ _ _ _ _ σ1 Q ⟨fun c => absurd ((lt_nI (by omega) (by omega)).mp c) (by omega), fun _ => ⟨fun c => ?_, fun c => ?_⟩⟩
      · have : n = 0 := by
          have := (le_nI (k := 0) (by omega) (by omega)).mp c
          omega
        refine h σ1 f1 g1 ?_
        rw [if_neg (by omega)] at m1 ⊢
        exact m1
      · have hn0 : 0 < n := by
          rcases Nat.eq_zero_or_pos n with q | q
          · rw [q] at c; exact absurd (by decide) c
          · exact q
        rw [if_pos hn0] at m1
        have bx := mul_bd (t := t) (z := dx) (by omega) b3.1 b3.2
        have by_ := mul_bd (t := t) (z := dy) (by omega) b4.1 b4.2
        have dx_ := div_bd (a := 2 * (t : Int) * dx + n) (n := 2 * (n : Int)) (by omega) (by omega) (by omega)
        have dy_ := div_bd (a := 2 * (t : Int) * dy + n) (n := 2 * (n : Int)) (by omega) (by omega) (by omega)
        rw [num_e, num_e, den_e, nI_1]
        refine s_X8_down (d + 2) (by omega) (by omega) (by omega) (by omega) σ1 _ ?_
        refine s_X8_down (d + 2) (by omega) (by omega) (by omega) (by omega) σ1 _ ?_
        rw [iI_add, iI_add]
        refine s_X8_puts d i hi (by omega) (by omega) (by omega) (by omega) σ1 _ m1 _ (fun σ2 f2 g2 m2 => ih σ2 (f1.tr f2) (g2.trans g1) ?_)
        rw [if_pos hn0]
        exact m2.c (fun x y _ _ => stS_suc x y)
  have h0 : mpin σ i (stS S x0 y0 dx dy n 0) := hS.c (fun x y _ _ => ⟨Or.inl, fun q => q.resolve_right (fun ⟨t, q, _⟩ => absurd q (Nat.not_lt_zero t))⟩)
  refine e_X8_steps (d + 3) _ _ _ _ _ (b_X8_steps_0 (d + 2) _ _ _ _ _ σ Q ?_)
  refine s_X8_abs (d + 2) (by omega) (by omega) σ _ (s_X8_abs (d + 2) (by omega) (by omega) σ _ ⟨fun c => ?_, fun c => ?_⟩)
  · have := (le_nI (by omega) (by omega)).mp c
    refine s_X8_abs (d + 2) (by omega) (by omega) σ _ ?_
    rw [show dy.natAbs = n by omega]
    exact L σ (Fr.rf σ) rfl h0
  · have : ¬ dx.natAbs ≤ dy.natAbs := fun q => c ((le_nI (by omega) (by omega)).mpr q)
    refine s_X8_abs (d + 2) (by omega) (by omega) σ _ ?_
    rw [show dx.natAbs = n by omega]
    exact L σ (Fr.rf σ) rfl h0
set_option maxHeartbeats 1000000 in
theorem s_X3_drawStep (d k : Nat) (hk : tk_sh k = tk_shape) {x0 y0 x1 y1 : Int} (b1 : 0 ≤ x0 ∧ x0 ≤ 23) (b2 : 0 ≤ y0 ∧ y0 ≤ 23) (b3 : 0 ≤ x1 ∧ x1 ≤ 23) (b4 : 0 ≤ y1 ∧ y1 ≤ 23) (σ : tk_S) (S : Nat → Nat → Prop) (hS : xrow σ (k + 3 + 1) S) (Q : tk_S → Prop) (n : Nat) (hn : n = max (x1 - x0).natAbs (y1 - y0).natAbs) (h : ∀ σ', Fr (frK (k + 3 + 1)) σ σ' → σ'.2 = σ.2 → xrow σ' (k + 3 + 1) (stS S x0 y0 (x1 - x0) (y1 - y0) n (if 0 < n then n + 1 else 0)) → Q σ') : p_X3_drawStep (d + 2) [aN k, aI (iI x0), aI (iI y0), aI (iI x1), aI (iI y1)] σ Q := by
  have hn30 : n ≤ 30 := by omega
  refine e_X3_drawStep (d + 2) k _ _ _ _ (b_X3_drawStep_0 (d + 1) k hk _ _ _ _ σ Q ?_)
  intro z1 e1 z2 e2 z3 e3
  rw [iI_sub] at e1 e2
  rw [e1, e2, abs_if (by omega) (by omega), abs_if (by omega) (by omega), max_if (by omega) (by omega), ← hn] at e3
  subst e1; subst e2; subst e3
  refine ⟨fun c => ?_, fun c => ?_⟩
  · have hn0 : 0 < n := by
      rcases Nat.eq_zero_or_pos n with q | q
      · rw [q] at c; exact absurd rfl c
      · exact q
    have L := up_loop (fun t => ∀ σ1, Fr (frK (k + 3 + 1)) σ σ1 → σ1.2 = σ.2 → xrow σ1 (k + 3 + 1) (stS S x0 y0 (x1 - x0) (y1 - y0) n t) → g_X3_drawStep (d + 2) 35 [(0, aN k), (1, aI (iI x0)), (2, aI (iI y0)), (5, aI (iI (x1 - x0))), (6, aI (iI (y1 - y0))), (7, aI (nI n)), (8, aI (nI t))] σ1 Q) (n + 1) ?_ ?_
    · exact L σ (Fr.rf σ) rfl (hS.c (fun x y _ _ => ⟨Or.inl, fun q => q.resolve_right (fun ⟨t, q, _⟩ => absurd q (Nat.not_lt_zero t))⟩))
    · intro σ1 f1 g1 m1
      exact b_X3_drawStep_35 (d + 1) k hk _ _ _ _ _ _ σ1 Q ⟨fun _ => h σ1 f1 g1 (by rw [if_pos hn0]; exact m1), fun c => absurd ((lt_nI (by omega) (by omega)).mpr (by omega)) c⟩
    · intro t ht ih σ1 f1 g1 m1
      refine b_X3_drawStep_35 (d + 1) k hk _ _ _ _ _ _ σ1 Q ⟨fun c => absurd ((lt_nI (by omega) (by omega)).mp c) (by omega), fun _ => ?_⟩
      have bx := mul_bd (t := t) (z := x1 - x0) (by omega) (by omega) (by omega)
      have by_ := mul_bd (t := t) (z := y1 - y0) (by omega) (by omega) (by omega)
      have dx_ := div_bd (a := 2 * (t : Int) * (x1 - x0) + n) (n := 2 * (n : Int)) (by omega) (by omega) (by omega)
      have dy_ := div_bd (a := 2 * (t : Int) * (y1 - y0) + n) (n := 2 * (n : Int)) (by omega) (by omega) (by omega)
      rw [num_e, num_e, den_e, nI_1]
      refine s_floorDiv (d + 1) (by omega) (by omega) (by omega) (by omega) σ1 _ (fun z5 e5 => ?_)
      refine s_floorDiv (d + 1) (by omega) (by omega) (by omega) (by omega) σ1 _ (fun z9 e9 => ?_)
      rw [iI_add] at e5 e9
      subst e5; subst e9
      refine s_raise d (k + 3) (tk_s3 hk) (by omega) (by omega) (by omega) (by omega) σ1 _ m1 _ (fun σ2 f2 g2 m2 => ih σ2 (f1.tr f2) (g2.trans g1) ?_)
      exact m2.c (fun x y _ _ => stS_suc x y)
  · have : n = 0 := (nI_eq (b := 0) (by omega) (by omega)).mp c
    refine h σ (Fr.rf σ) rfl ?_
    rw [if_neg (by omega)]
    exact hS.c (fun x y _ _ => ⟨Or.inl, fun q => q.resolve_right (fun ⟨t, q, _⟩ => absurd q (Nat.not_lt_zero t))⟩)
