/-! THE FINGER by the class: gathering, counting -/
theorem walk_mono {u : Nat → Nat → Nat} {x y x' y' : Nat} : ∀ {m n : Nat}, m ≤ n → walkP u x y m x' y' → walkP u x y n x' y' := by
  intro m n h
  induction n with
  | zero => intro q; rw [show m = 0 by omega] at q; exact q
  | succ n ih =>
    intro q
    by_cases e : m = n + 1
    · rw [e] at q; exact q
    · exact walk_more (ih (by omega) q)
theorem walk_stable {u : Nat → Nat → Nat} {x y k : Nat} (h : ∀ x' y', walkP u x y (k + 1) x' y' → walkP u x y k x' y') : ∀ m x' y', walkP u x y m x' y' → walkP u x y k x' y' := by
  intro m
  induction m with
  | zero => intro x' y' q; exact walk_mono (by omega) q
  | succ m ih => rintro x' y' ⟨x1, y1, h1, h2, h3⟩; exact h x' y' ⟨x1, y1, ih x1 y1 h1, h2, h3⟩
noncomputable def wc (u : Nat → Nat → Nat) (x y n : Nat) : Nat := cnt (fun p => pB (walkP u x y n (p % 24) (p / 24))) 576
theorem wc_stop {u : Nat → Nat → Nat} {x y k : Nat} (h : wc u x y (k + 1) ≤ wc u x y k) : ∀ x' y', joinP u x y x' y' ↔ walkP u x y k x' y' := by
  have st : ∀ x' y', walkP u x y (k + 1) x' y' → walkP u x y k x' y' := by
    intro x' y' q
    apply Classical.byContradiction
    intro no
    have up := (walk_ends _ _ _ q).2
    obtain ⟨i1, i2, i3⟩ := pin_ix up.1 up.2.1
    have := cnt_sl (p := fun p => pB (walkP u x y k (p % 24) (p / 24))) (q := fun p => pB (walkP u x y (k + 1) (p % 24) (p / 24))) (n := 576) (k := 24 * y' + x') (fun i _ hi => pB_t.mpr (walk_more (pB_t.mp hi))) i3 (by rw [i1, i2]; exact pB_f.mpr no) (by rw [i1, i2]; exact pB_t.mpr q)
    unfold wc at h
    omega
  intro x' y'
  exact ⟨fun ⟨m, q⟩ => walk_stable st m x' y' q, fun q => ⟨k, q⟩⟩
theorem xrow_keep {σ : tk_S} {K O : Nat} {S T : Nat → Nat → Prop} (h : xrow σ K S) (h2 : xrow σ O T) : xrow (tk_fill σ K 24 (fun j => σ.1 K j &&& σ.1 O j)) K (fun x y => S x y ∧ T x y) := by
  intro x y hy
  rw [tk_fill_s]
  show bt (if y < 24 then σ.1 K y &&& σ.1 O y else σ.1 K y) x = _
  rw [if_pos hy, b_and, h x y hy, h2 x y hy]
  apply Bool.eq_iff_iff.mpr
  rw [Bool.and_eq_true, pB_t, pB_t, pB_t]
  exact ⟨fun q => ⟨q.1.1, q.1.2, q.2.2⟩, fun q => ⟨⟨q.1, q.2.1⟩, q.1, q.2.2⟩⟩
theorem xrow_drop {σ : tk_S} {K O : Nat} {S T : Nat → Nat → Prop} (h : xrow σ K S) (h2 : xrow σ O T) : xrow (tk_fill σ K 24 (fun j => σ.1 K j &&& (σ.1 O j ^^^ (-1)))) K (fun x y => S x y ∧ ¬ T x y) := by
  intro x y hy
  rw [tk_fill_s]
  show bt (if y < 24 then σ.1 K y &&& (σ.1 O y ^^^ (-1)) else σ.1 K y) x = _
  rw [if_pos hy, b_and, h x y hy]
  by_cases h32 : x < 32
  · rw [bt_not _ h32, h2 x y hy]
    apply Bool.eq_iff_iff.mpr
    rw [Bool.and_eq_true, pB_t, Bool.not_eq_true', pB_f, pB_t]
    exact ⟨fun q => ⟨q.1.1, q.1.2, fun z => q.2 ⟨q.1.1, z⟩⟩, fun q => ⟨⟨q.1, q.2.1⟩, fun z => q.2.2 z.2⟩⟩
  · rw [b_big (by omega), Bool.and_false]
    exact (pB_f.mpr (fun q => by omega)).symm
set_option maxHeartbeats 1000000 in
theorem s_gather (d : Nat) (u : Nat → Nat → Nat) (p : Nat) (hp : p < 576) (hf : firstP u p) (σ : tk_S) (hL : xrow σ 56 (leftS u p)) (Q : tk_S → Prop) (h : ∀ σ', Fr (frK 58) σ σ' → σ'.2 = σ.2 → xrow σ' 58 (joinP u (p % 24) (p / 24)) → Q σ') : p_X0_gather (d + 3) [aN 54, aI (nI (p % 24)), aI (nI (p / 24))] σ Q := by
  refine e_X0_gather (d + 3) _ _ (b_X0_gather_0 (d + 2) _ _ σ Q ?_)
  refine s_X2_clear (d + 2) 57 rfl σ _ ?_
  generalize e1 : tk_fill σ (57 + 1) 24 (fun _ => (0 : Int32)) = σ1
  have f1 : Fr (frK 58) σ σ1 := by rw [← e1]; exact Fr.fill σ _ (fun j => rfl)
  have r1 : xrow σ1 58 (fun _ _ => False) := fun x y hy => by
    rw [← e1, tk_fill_s]
    show bt (if y < 24 then 0 else σ.1 58 y) x = _
    rw [if_pos hy, b_0]; exact (pB_f.mpr (fun q => q.2)).symm
  rw [nI_iI, nI_iI]
  refine s_raise (d + 1) 57 rfl (by omega) (by omega) (by omega) (by omega) σ1 _ r1 _ (fun σ2 f2 g2 r2 => ?_)
  have f12 : Fr (frK 58) σ σ2 := f1.tr f2
  have r2 : xrow σ2 58 (walkP u (p % 24) (p / 24) 0) := r2.c (fun x y _ _ => by
    unfold ptS
    constructor
    · rintro (q | q)
      · exact q.elim
      · exact ⟨hf.1, by omega, by omega⟩
    · rintro ⟨_, q1, q2⟩
      exact Or.inr ⟨by omega, by omega⟩)
  have w0 : wc u (p % 24) (p / 24) 0 = 1 := by
    have a1 : wc u (p % 24) (p / 24) 0 = cnt (fun q => decide (q = p)) 576 := cnt_c (fun q hq => by
      rw [← Bool.decide_coe (pB _)]
      refine decide_eq_decide.mpr ?_
      rw [pB_t]
      exact ⟨fun v => by have := v.2.1; have := v.2.2; omega, fun v => by subst v; exact ⟨hf.1, rfl, rfl⟩⟩)
    rw [a1, ← sum_one, sumB_one, if_pos hp]
  have L := up_loop (fun n => ∀ (σ3 : tk_S) (b : Nat), Fr (frK 58) σ σ3 → σ3.2 = σ.2 → xrow σ3 58 (walkP u (p % 24) (p / 24) n) → ((n < wc u (p % 24) (p / 24) n ∧ b < wc u (p % 24) (p / 24) n) ∨ (∃ k, n = k + 1 ∧ b = wc u (p % 24) (p / 24) k ∧ wc u (p % 24) (p / 24) n ≤ b)) → g_X0_gather (d + 3) 24 [(0, aN 54), (3, aI (nI b)), (4, aI (nI (wc u (p % 24) (p / 24) n))), (5, aI (nI n))] σ3 Q) 576 ?_ ?_
  · have := L σ2 0 f12 (g2.trans (by rw [← e1]; rfl)) r2 (Or.inl ⟨by omega, by omega⟩)
    rw [w0] at this
    exact this
  · intro σ3 b f3 g3 r3 hq
    have wl := cnt_n (fun q => pB (walkP u (p % 24) (p / 24) 576 (q % 24) (q / 24))) 576
    refine b_X0_gather_24 (d + 2) _ _ _ σ3 Q ⟨fun _ => ?_, fun z => absurd (by decide) z⟩
    rcases hq with q | ⟨k, k1, k2, k3⟩
    · unfold wc at q; omega
    · have st := wc_stop (u := u) (x := p % 24) (y := p / 24) (k := k) (by rw [← k1, ← k2]; exact k3)
      refine h σ3 f3 g3 (r3.c (fun x y _ _ => ?_))
      rw [st, k1]
      exact ⟨fun v => (st x y).mp ⟨_, v⟩, fun v => walk_more v⟩
  · intro n hn ih σ3 b f3 g3 r3 hq
    have wl : ∀ m, wc u (p % 24) (p / 24) m ≤ 576 := fun m => cnt_n _ 576
    have bl : b ≤ 576 := by
      rcases hq with q | ⟨k, k1, k2, k3⟩
      · have := wl n; omega
      · have := wl k; omega
    have wn := wl n
    refine b_X0_gather_24 (d + 2) _ _ _ σ3 Q ⟨fun z => absurd ((le_nI (n := 576) (by omega) (by omega)).mp z) (by omega), fun _ => ?_⟩
    rw [le_nI (by omega) (by omega)]
    refine ⟨fun z => ?_, fun z => ?_⟩
    · rcases hq with q | ⟨k, k1, k2, k3⟩
      · omega
      · have st := wc_stop (u := u) (x := p % 24) (y := p / 24) (k := k) (by rw [← k1, ← k2]; exact k3)
        refine h σ3 f3 g3 (r3.c (fun x y _ _ => ?_))
        rw [st, k1]
        exact ⟨fun v => (st x y).mp ⟨_, v⟩, fun v => walk_more v⟩
    · have hlt : n < wc u (p % 24) (p / 24) n := by
        rcases hq with q | ⟨k, k1, k2, k3⟩
        · exact q.1
        · omega
      refine s_X2_swell (d + 1) 57 rfl σ3 _ ?_
      have r4 := xrow_swell r3
      generalize e4 : tk_fill σ3 (57 + 1) 24 (swl (σ3.1 (57 + 1))) = σ4
      have r4 : xrow σ4 58 (growS (walkP u (p % 24) (p / 24) n)) := by rw [← e4]; exact r4
      have f4 : Fr (frK 58) σ σ4 := f3.tr (by rw [← e4]; exact Fr.fill σ3 _ (fun j => rfl))
      refine s_X2_keepOnly (d + 2) 57 55 rfl rfl σ4 _ ?_
      have hL4 : xrow σ4 56 (leftS u p) := fun x y hy => by rw [f4 56 y (by unfold frK; omega)]; exact hL x y hy
      have r5 := xrow_keep r4 hL4
      generalize e5 : tk_fill σ4 (57 + 1) 24 (fun j => σ4.1 (57 + 1) j &&& σ4.1 (55 + 1) j) = σ5
      have r5 : xrow σ5 58 (walkP u (p % 24) (p / 24) (n + 1)) := by
        rw [← e5]
        refine xrow.c r5 (fun x y hx hy => ?_)
        constructor
        · rintro ⟨⟨x1, y1, _, _, q1, q2⟩, q3⟩
          exact ⟨x1, y1, q1, ⟨q2.2.1, q2.1, q2.2.2.2, q2.2.2.1⟩, q3.1⟩
        · rintro ⟨x1, y1, q1, q2, q3⟩
          have up1 := (walk_ends _ _ _ q1).2
          exact ⟨⟨x1, y1, up1.1, up1.2.1, q1, q2.2.1, q2.1, q2.2.2.2, q2.2.2.1⟩, left_cl (p := p) hf ⟨n + 1, x1, y1, q1, q2, q3⟩⟩
      have f5 : Fr (frK 58) σ σ5 := f4.tr (by rw [← e5]; exact Fr.fill σ4 _ (fun j => rfl))
      refine s_X2_size (d + 1) 57 rfl _ σ5 r5 _ ?_
      rw [nI_1]
      refine ih σ5 _ f5 (by rw [← e5, ← e4]; exact g3) r5 ?_
      rcases Nat.lt_or_ge (wc u (p % 24) (p / 24) n) (wc u (p % 24) (p / 24) (n + 1)) with v | v
      · exact Or.inl ⟨by omega, v⟩
      · exact Or.inr ⟨n, rfl, rfl, v⟩
/-- how many beside q are up, by rows -/
theorem three_b : ∀ x, x < 24 → ∀ i, i < 32 → bt (((7 : Int32) <<< (nI x &&& 31)) >>> ((1 : Int32) &&& 31)) i = decide (x ≤ i + 1 ∧ i ≤ x + 1) := by decide +kernel
theorem cnt_zero {p : Nat → Bool} {n : Nat} (h : ∀ i, i < n → p i = false) : cnt p n = 0 := cnt_up (m := 0) p (by omega) (fun i _ hi => h i hi)
set_option maxHeartbeats 1000000 in
theorem s_countBeside (d : Nat) (T : Nat → Nat → Prop) {x y : Nat} (hx : x < 24) (hy : y < 24) (σ : tk_S) (hT : xrow σ 58 T) (Q : Int32 → tk_S → Prop) (h : Q (iI ((cnt (fun r => pB (besideP x y (r % 24) (r / 24) ∧ T (r % 24) (r / 24))) 576 : Nat) - 1 : Int)) σ) : p_X2_countBeside (d + 1) [aN 57, aI (nI x), aI (nI y)] σ Q := by
  refine e_X2_countBeside (d + 1) _ _ _ (b_X2_countBeside_0 d 57 rfl _ _ σ Q (fun z1 e1 z2 e2 => ?_))
  have b1 : ∀ i, i < 32 → bt z1 i = decide (x ≤ i + 1 ∧ i ≤ x + 1) := fun i hi => by rw [e1]; exact three_b x hx i hi
  have e2 : z2 = nI (y - 1) := by
    rw [e2]
    rcases Nat.eq_zero_or_pos y with z | z
    · subst z; decide
    · rw [pre1 z, if_neg (nI_pos (by omega))]
  have eh : (if (23 : Int32) < nI y + 1 then (23 : Int32) else nI y + 1) = nI (min (y + 1) 23) := by
    have t : ∀ y, y < 24 → (if (23 : Int32) < nI y + 1 then (23 : Int32) else nI y + 1) = nI (min (y + 1) 23) := by decide +kernel
    exact t y hy
  subst e2
  generalize eP : (fun r => pB (besideP x y (r % 24) (r / 24) ∧ T (r % 24) (r / 24))) = P at h
  have rowz : ∀ r, ¬ (y ≤ r / 24 + 1 ∧ r / 24 ≤ y + 1) → P r = false := fun r hr => by
    rw [← eP]
    exact pB_f.mpr (fun q => hr ⟨q.1.2.2.1, q.1.2.2.2⟩)
  have L := up_from (fun row => g_X2_countBeside (d + 1) 19 [(0, aN 57), (2, aI (nI y)), (3, aI z1), (4, aI (iI ((cnt P (24 * row) : Nat) - 1 : Int))), (5, aI (nI row))] σ Q) (min (y + 1) 23 + 1) (y - 1) (by omega) ?_ ?_
  · rw [cnt_zero (fun i hi => rowz i (by omega))] at L
    exact L
  · refine b_X2_countBeside_19 d 57 rfl _ _ _ _ σ Q ?_
    rw [eh]
    refine ⟨fun _ => ?_, fun z => absurd ((lt_nI (by omega) (by omega)).mpr (by omega)) z⟩
    rw [cnt_up (m := 24 * (min (y + 1) 23 + 1)) (n := 576) P (by omega) (fun i h1 h2 => rowz i (by omega))] at h
    exact h
  · intro row r1 r2 ih
    have hrow : row < 24 := by omega
    refine b_X2_countBeside_19 d 57 rfl _ _ _ _ σ Q ?_
    rw [eh]
    refine ⟨fun z => absurd ((lt_nI (by omega) (by omega)).mp z) (by omega), fun _ => ⟨vp_in_nI hrow (by omega), ?_⟩⟩
    rw [nI_clamp (by omega)]
    have ba : ∀ i, i < 32 → bt (σ.1 (57 + 1) row &&& z1) i = (pB (i < 24 ∧ T i row) && decide (x ≤ i + 1 ∧ i ≤ x + 1)) := fun i hi => by rw [b_and, hT i row hrow, b1 i hi]
    refine s_bitCount d _ (fun i hi => ?_) σ _ (fun z6 e6 => ?_)
    · by_cases h32 : i < 32
      · rw [ba i h32, pB_f.mpr (fun q => by omega)]; rfl
      · exact b_big (by omega)
    · have ec : cnt P (24 * (row + 1)) = cnt P (24 * row) + cnt (bt (σ.1 (57 + 1) row &&& z1)) 24 := by
        rw [show 24 * (row + 1) = 24 * row + 24 by omega, cnt_rows]
        congr 1
        refine cnt_c (fun i hi => ?_)
        rw [ba i (by omega), ← eP]
        show pB (besideP x y ((24 * row + i) % 24) ((24 * row + i) / 24) ∧ T ((24 * row + i) % 24) ((24 * row + i) / 24)) = _
        rw [show (24 * row + i) % 24 = i by omega, show (24 * row + i) / 24 = row by omega]
        apply Bool.eq_iff_iff.mpr
        rw [Bool.and_eq_true, pB_t, pB_t, decide_eq_true_iff]
        exact ⟨fun q => ⟨⟨hi, q.2⟩, q.1.1, q.1.2.1⟩, fun q => ⟨⟨q.2.1, q.2.2, by omega, by omega⟩, q.1.2⟩⟩
      rw [nI_iI, iI_add] at e6
      rw [e6, nI_1]
      rw [ec] at ih
      have e7 : ((cnt P (24 * row) : Nat) : Int) - 1 + ((cnt (bt (σ.1 (57 + 1) row &&& z1)) 24 : Nat) : Int) = ((cnt P (24 * row) + cnt (bt (σ.1 (57 + 1) row &&& z1)) 24 : Nat) : Int) - 1 := by omega
      rw [e7]
      exact ih
/-- beside a pin of a thing all that is up is of the thing -/
theorem bes_eq {u : Nat → Nat → Nat} {p q : Nat} (hq : q < 576) (h : ofT u p q) : cnt (fun r => pB (besideP (q % 24) (q / 24) (r % 24) (r / 24) ∧ joinP u (p % 24) (p / 24) (r % 24) (r / 24))) 576 = besN u q + 1 := by
  have e : cnt (wout (fun r => pB (besideP (q % 24) (q / 24) (r % 24) (r / 24) ∧ joinP u (p % 24) (p / 24) (r % 24) (r / 24))) q) 576 = besN u q := by
    refine cnt_c (fun r hr => ?_)
    unfold wout
    apply Bool.eq_iff_iff.mpr
    rw [Bool.and_eq_true, pB_t, pB_t, decide_eq_true_iff]
    constructor
    · exact fun v => ⟨v.2, v.1.1, (join_ends v.1.2).2⟩
    · exact fun v => ⟨⟨v.2.1, join_tr h (join_one (join_ends h).2 v.2.2 v.2.1)⟩, v.1⟩
  rw [cnt_wout _ q (pB_t.mpr ⟨beside_rf _ _, h⟩) 576 hq, e]
