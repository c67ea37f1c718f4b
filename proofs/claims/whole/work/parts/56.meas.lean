/-! FAR: the class measures it by swelling -/
theorem pB_or {A B : Prop} : (pB A || pB B) = pB (A ∨ B) := by
  by_cases h1 : A
  · rw [pB_t.mpr h1, pB_t.mpr (Or.inl h1)]; rfl
  · rw [pB_f.mpr h1, Bool.false_or]
    exact pB_c ⟨Or.inr, fun q => q.resolve_left h1⟩
theorem bt_wid {r : Int32} {R : Nat → Prop} (hr : ∀ x, bt r x = pB (x < 24 ∧ R x)) (x : Nat) : bt (wid r) x = pB (x < 24 ∧ ∃ x', x' < 24 ∧ R x' ∧ x ≤ x' + 1 ∧ x' ≤ x + 1) := by
  by_cases hx : x < 32
  · have hm : ∀ n, n < 32 → bt 16777215 n = decide (n < 24) := by decide +kernel
    unfold wid
    rw [b_and, hm x hx, b_or, b_or, show (1 : Int32) &&& 31 = nI 1 &&& 31 from rfl, b_shl 1 (by omega) r hx, b_sshr 1 (by omega) r hx]
    by_cases h24 : x < 24
    · rw [decide_eq_true h24, Bool.and_true, if_pos (by omega), hr x, hr (x - 1), hr (1 + x)]
      by_cases h1 : 1 ≤ x
      · rw [decide_eq_true h1, Bool.true_and, pB_or, pB_or]
        refine pB_c ⟨fun q => ⟨h24, ?_⟩, fun q => ?_⟩
        · rcases q with (q | q) | q
          · exact ⟨x, q.1, q.2, by omega, by omega⟩
          · exact ⟨x - 1, q.1, q.2, by omega, by omega⟩
          · exact ⟨1 + x, q.1, q.2, by omega, by omega⟩
        · obtain ⟨_, x', a1, a2, a3, a4⟩ := q
          rcases (show x' = x ∨ x' = x - 1 ∨ x' = 1 + x by omega) with e | e | e
          · subst e; exact Or.inl (Or.inl ⟨a1, a2⟩)
          · rw [← e]; exact Or.inl (Or.inr ⟨a1, a2⟩)
          · rw [← e]; exact Or.inr ⟨a1, a2⟩
      · rw [decide_eq_false h1, Bool.false_and, Bool.or_false, pB_or]
        refine pB_c ⟨fun q => ⟨h24, ?_⟩, fun q => ?_⟩
        · rcases q with q | q
          · exact ⟨x, q.1, q.2, by omega, by omega⟩
          · exact ⟨1 + x, q.1, q.2, by omega, by omega⟩
        · obtain ⟨_, x', a1, a2, a3, a4⟩ := q
          rcases (show x' = x ∨ x' = 1 + x by omega) with e | e
          · subst e; exact Or.inl ⟨a1, a2⟩
          · rw [← e]; exact Or.inr ⟨a1, a2⟩
    · rw [decide_eq_false h24, Bool.and_false]
      exact (pB_f.mpr (fun q => h24 q.1)).symm
  · rw [b_big (by omega)]
    exact (pB_f.mpr (fun q => by omega)).symm
def growS (S : Nat → Nat → Prop) : Nat → Nat → Prop := fun x y => ∃ x' y', x' < 24 ∧ y' < 24 ∧ S x' y' ∧ x ≤ x' + 1 ∧ x' ≤ x + 1 ∧ y ≤ y' + 1 ∧ y' ≤ y + 1
theorem xrow_swell {σ : tk_S} {K : Nat} {S : Nat → Nat → Prop} (h : xrow σ K S) : xrow (tk_fill σ K 24 (swl (σ.1 K))) K (growS S) := by
  intro x y hy
  rw [tk_fill_s]
  simp only [hy, if_true]
  unfold swl
  have w : ∀ y, y < 24 → bt (wid (σ.1 K y)) x = pB (x < 24 ∧ ∃ x', x' < 24 ∧ S x' y ∧ x ≤ x' + 1 ∧ x' ≤ x + 1) := fun y hy => bt_wid (R := fun x => S x y) (fun x => h x y hy) x
  rw [b_or, b_or, w y hy]
  have a1 : bt (if y = 0 then 0 else wid (σ.1 K (y - 1))) x = pB (0 < y ∧ x < 24 ∧ ∃ x', x' < 24 ∧ S x' (y - 1) ∧ x ≤ x' + 1 ∧ x' ≤ x + 1) := by
    by_cases e : y = 0
    · rw [if_pos e, b_0]; exact (pB_f.mpr (fun q => by omega)).symm
    · rw [if_neg e, w (y - 1) (by omega)]; exact pB_c ⟨fun q => ⟨by omega, q⟩, fun q => q.2⟩
  have a2 : bt (if y + 1 < 24 then wid (σ.1 K (y + 1)) else 0) x = pB (y + 1 < 24 ∧ x < 24 ∧ ∃ x', x' < 24 ∧ S x' (y + 1) ∧ x ≤ x' + 1 ∧ x' ≤ x + 1) := by
    by_cases e : y + 1 < 24
    · rw [if_pos e, w (y + 1) e]; exact pB_c ⟨fun q => ⟨e, q⟩, fun q => q.2⟩
    · rw [if_neg e, b_0]; exact (pB_f.mpr (fun q => by omega)).symm
  rw [a1, a2, pB_or, pB_or]
  refine pB_c ⟨fun q => ?_, fun q => ?_⟩
  · rcases q with (⟨q0, q1, x', b1, b2, b3⟩ | ⟨q1, x', b1, b2, b3⟩) | ⟨q0, q1, x', b1, b2, b3⟩
    · exact ⟨q1, x', y - 1, b1, by omega, b2, b3.1, b3.2, by omega, by omega⟩
    · exact ⟨q1, x', y, b1, hy, b2, b3.1, b3.2, by omega, by omega⟩
    · exact ⟨q1, x', y + 1, b1, q0, b2, b3.1, b3.2, by omega, by omega⟩
  · obtain ⟨q1, x', y', b1, b2, b3, b4, b5, b6, b7⟩ := q
    rcases (show y' = y ∨ (y' = y - 1 ∧ 0 < y) ∨ y' = y + 1 by omega) with e | ⟨e, e2⟩ | e
    · subst e; exact Or.inl (Or.inr ⟨q1, x', b1, b3, b4, b5⟩)
    · subst e; exact Or.inl (Or.inl ⟨e2, q1, x', b1, b3, b4, b5⟩)
    · subst e; exact Or.inr ⟨b2, q1, x', b1, b3, b4, b5⟩
def withS (a : Ab) (i d : Nat) : Nat → Nat → Prop := fun x y => ∃ x' y', pinP a i x' y' ∧ x ≤ x' + d ∧ x' ≤ x + d ∧ y ≤ y' + d ∧ y' ≤ y + d
theorem grow_with {a : Ab} {i d x y : Nat} (hx : x < 24) (hy : y < 24) : growS (withS a i d) x y ↔ withS a i (d + 1) x y := by
  constructor
  · rintro ⟨x1, y1, _, _, ⟨x', y', p, q⟩, r⟩
    exact ⟨x', y', p, by omega⟩
  · rintro ⟨x', y', p, q⟩
    have g1 := p.1
    have g2 := p.2.1
    refine ⟨if x < x' then x + 1 else if x' < x then x - 1 else x, if y < y' then y + 1 else if y' < y then y - 1 else y, ?_, ?_, ⟨x', y', p, ?_⟩, ?_⟩
    · split
      · omega
      · split <;> omega
    · split
      · omega
      · split <;> omega
    · split <;> split <;> (try split) <;> (try split) <;> omega
    · split <;> split <;> (try split) <;> (try split) <;> omega
theorem and_nz {x y : Int32} : x &&& y ≠ 0 ↔ ∃ b, b < 32 ∧ bt x b = true ∧ bt y b = true := by
  constructor
  · intro h
    by_cases q : ∃ b, b < 32 ∧ bt x b = true ∧ bt y b = true
    · exact q
    · refine absurd (bt_z (fun i hi => ?_)) h
      rw [b_and]
      cases e1 : bt x i
      · rfl
      · cases e2 : bt y i
        · rfl
        · exact absurd ⟨i, hi, e1, e2⟩ q
  · rintro ⟨b, hb, e1, e2⟩ h
    have : bt (x &&& y) b = true := by rw [b_and, e1, e2]; rfl
    rw [h, b_0] at this
    cases this
theorem mask_n : ∀ n, n < 13 → ∀ j, j < 32 → bt (((1 : Int32) <<< (nI n &&& 31)) - 1) j = decide (j < n) := by decide +kernel
theorem rd_o' {σ : tk_S} {K J : Nat} {x : Int32} {k j : Nat} (h : ¬ (k = K ∧ j = J)) : (tk_up σ K J x).1 k j = σ.1 k j := by rw [tk_up_at, if_neg h]
theorem tk_shp {i : Nat} (hi : i < 12) : tk_sh (1 + 71 + 5 * i) = tk_shape := by
  have : ∀ i, i < 12 → tk_sh (1 + 71 + 5 * i) = tk_shape := by decide +kernel
  exact this i hi
/-- the cells that measuring writes -/
def frMs (i : Nat) : Nat → Nat → Prop := fun k j => k = 19 ∨ (6 ≤ k ∧ k < 18 ∧ (k = 6 + i ∨ j = i))
set_option maxHeartbeats 4000000 in
theorem s_X7_measure (d i n : Nat) (hi : i < n) (hn : n ≤ 12) (a : Ab) (hW : ∀ j, j < n → WFs a j) (σ : tk_S) (h0 : σ.1 0 1 = nI n) (hR : ∀ j, j < n → xrow σ (72 + 5 * j + 4) (pinP a j)) (Q : tk_S → Prop) (h : ∀ σ', Fr (frMs i) σ σ' → σ'.2 = σ.2 → (∀ j, j < n → ∃ f, σ'.1 (6 + i) j = nI f ∧ σ'.1 (6 + j) i = nI f ∧ isFar a i j f) → Q σ') : p_X7_measure (d + 2) [aN 0, aI (nI i)] σ Q := by
  have fin : ∀ (U : Int32) (s : Nat) (σ1 : tk_S), Fr (frMs i) σ σ1 → σ1.2 = σ.2 → (∀ j, bt U j = pB (j < n ∧ ∀ e, e < s → ¬ reach a i j e)) → (∀ j, j < n → bt U j = false → ∃ f, σ1.1 (6 + i) j = nI f ∧ σ1.1 (6 + j) i = nI f ∧ isFar a i j f) → (∀ j, bt U j = false) → Q σ1 := fun U s σ1 f1 g1 u1 d1 z => h σ1 f1 g1 (fun j hj => d1 j hj (z j))
  refine e_X7_measure (d + 2) _ (b_X7_measure_0 (d + 1) _ σ Q ⟨vp_in_nI (by omega) (by omega), ?_⟩)
  rw [nI_clamp (by omega)]
  refine s_X2_copy (d + 1) 18 _ rfl (tk_s3 (tk_shp (by omega))) σ _ (fun z4 e4 => ?_)
  generalize es : tk_fill σ (18 + 1) 24 (fun j => σ.1 (1 + 71 + 5 * i + 3 + 1) j) = σ3 at e4 ⊢
  have f3 : Fr (frMs i) σ σ3 := by rw [← es]; exact Fr.fill σ _ (fun j => Or.inl rfl)
  have g3 : σ3.2 = σ.2 := by rw [← es]; rfl
  have cnt_ : ∀ σ1, Fr (frMs i) σ σ1 → σ1.1 0 1 = nI n := fun σ1 f1 => by rw [f1 0 1 (by unfold frMs; omega)]; exact h0
  have rows_ : ∀ σ1, Fr (frMs i) σ σ1 → ∀ j, j < n → xrow σ1 (72 + 5 * j + 4) (pinP a j) := fun σ1 f1 j hj x y hy => by rw [f1 (72 + 5 * j + 4) y (by unfold frMs; omega)]; exact hR j hj x y hy
  have m3 : xrow σ3 19 (withS a i 0) := by
    intro x y hy
    rw [← es, show (19 : Nat) = 18 + 1 from rfl, tk_fill_s]
    simp only [hy, if_true]
    rw [show 1 + 71 + 5 * i + 3 + 1 = 72 + 5 * i + 4 by omega, hR i hi x y hy]
    refine pB_c ⟨fun q => ⟨q.1, x, y, q.2, by omega⟩, fun q => ⟨q.1, ?_⟩⟩
    obtain ⟨_, x', y', p, r⟩ := q
    rw [show x = x' by omega, show y = y' by omega]
    exact p
  rw [cnt_ σ3 f3] at e4
  have O := up_loop (fun s => ∀ (U : Int32) (σ1 : tk_S), Fr (frMs i) σ σ1 → σ1.2 = σ.2 → xrow σ1 19 (withS a i s) → (∀ j, bt U j = pB (j < n ∧ ∀ e, e < s → ¬ reach a i j e)) → (∀ j, j < n → bt U j = false → ∃ f, σ1.1 (6 + i) j = nI f ∧ σ1.1 (6 + j) i = nI f ∧ isFar a i j f) → g_X7_measure (d + 2) 27 [(0, aN 0), (1, aI (nI i)), (2, aI U), (3, aI (nI s))] σ1 Q) 24 ?_ ?_
  · refine O z4 σ3 f3 g3 m3 (fun j => ?_) (fun j hj hb => ?_)
    · rw [e4]
      by_cases hj : j < 32
      · rw [mask_n n (by omega) j hj]
        by_cases q : j < n
        · rw [decide_eq_true q]; exact (pB_t.mpr ⟨q, fun e he => absurd he (Nat.not_lt_zero e)⟩).symm
        · rw [decide_eq_false q]; exact (pB_f.mpr (fun z => q z.1)).symm
      · rw [b_big (by omega)]; exact (pB_f.mpr (fun z => by omega)).symm
    · rw [e4, mask_n n (by omega) j (by omega), decide_eq_true hj] at hb; cases hb
  · intro U σ1 f1 g1 m1 u1 d1
    refine b_X7_measure_27 (d + 1) _ _ _ σ1 Q ⟨fun _ => fin U 24 σ1 f1 g1 u1 d1 (fun j => ?_), fun c => absurd (by decide) c⟩
    rw [u1 j]
    exact pB_f.mpr (fun z => z.2 23 (by omega) (reach_23 (hW i hi) (hW j z.1)))
  · intro s hs ih U σ1 f1 g1 m1 u1 d1
    refine b_X7_measure_27 (d + 1) _ _ _ σ1 Q ⟨fun c => absurd ((le_nI (n := 24) (by omega) (by omega)).mp c) (by omega), fun _ => ⟨fun c => fin U s σ1 f1 g1 u1 d1 (fun j => by rw [c, b_0]), fun _ => ?_⟩⟩
    have I := up_loop (fun jj => ∀ (U : Int32) (σ1 : tk_S), Fr (frMs i) σ σ1 → σ1.2 = σ.2 → xrow σ1 19 (withS a i s) → (∀ j, bt U j = pB (j < n ∧ (∀ e, e < s → ¬ reach a i j e) ∧ (j < jj → ¬ reach a i j s))) → (∀ j, j < n → bt U j = false → ∃ f, σ1.1 (6 + i) j = nI f ∧ σ1.1 (6 + j) i = nI f ∧ isFar a i j f) → g_X7_measure (d + 2) 40 [(0, aN 0), (1, aI (nI i)), (2, aI U), (3, aI (nI s)), (4, aI (nI jj))] σ1 Q) n ?_ ?_
    · refine I U σ1 f1 g1 m1 (fun j => ?_) d1
      rw [u1 j]
      exact pB_c ⟨fun q => ⟨q.1, q.2, fun z => absurd z (Nat.not_lt_zero j)⟩, fun q => ⟨q.1, q.2.1⟩⟩
    · intro U σ1 f1 g1 m1 u1 d1
      refine b_X7_measure_40 (d + 1) _ _ _ _ σ1 Q ?_
      rw [cnt_ σ1 f1]
      refine ⟨fun _ => s_X2_swell d 18 rfl σ1 _ ?_, fun c => absurd ((le_nI (by omega) (by omega)).mpr (Nat.le_refl _)) c⟩
      generalize ew : tk_fill σ1 (18 + 1) 24 (swl (σ1.1 (18 + 1))) = σ2
      have f2 : Fr (frMs i) σ1 σ2 := by rw [← ew]; exact Fr.fill σ1 _ (fun j => Or.inl rfl)
      rw [nI_1]
      refine ih U σ2 (f1.tr f2) (by rw [← ew]; exact g1) ?_ (fun j => ?_) (fun j hj hb => ?_)
      · rw [← ew]
        exact (xrow_swell (K := 19) m1).c (fun x y hx hy => grow_with hx hy)
      · rw [u1 j]
        refine pB_c ⟨fun q => ⟨q.1, fun e he => ?_⟩, fun q => ⟨q.1, fun e he => q.2 e (by omega), fun _ => q.2 s (by omega)⟩⟩
        by_cases e1 : e = s
        · subst e1; exact q.2.2 q.1
        · exact q.2.1 e (by omega)
      · obtain ⟨f, z1, z2, z3⟩ := d1 j hj hb
        exact ⟨f, by rw [← ew, tk_fill_o _ _ _ (by omega)]; exact z1, by rw [← ew, tk_fill_o _ _ _ (by omega)]; exact z2, z3⟩
    · intro jj hjj ih2 U σ1 f1 g1 m1 u1 d1
      have skip : (bt U jj = true → ¬ reach a i jj s) → g_X7_measure (d + 2) 40 [(0, aN 0), (1, aI (nI i)), (2, aI U), (3, aI (nI s)), (4, aI (nI (jj + 1)))] σ1 Q := by
        intro hsk
        refine ih2 U σ1 f1 g1 m1 (fun j => ?_) d1
        rw [u1 j]
        refine pB_c ⟨fun q => ⟨q.1, q.2.1, fun z => ?_⟩, fun q => ⟨q.1, q.2.1, fun z => q.2.2 (by omega)⟩⟩
        by_cases e : j = jj
        · subst e
          exact hsk (by rw [u1 j]; exact pB_t.mpr q)
        · exact q.2.2 (by omega)
      refine b_X7_measure_40 (d + 1) _ _ _ _ σ1 Q ?_
      rw [cnt_ σ1 f1, nI_1 s, nI_1 jj]
      refine ⟨fun c => absurd ((le_nI (by omega) (by omega)).mp c) (by omega), fun _ => s_X7_has (d + 1) U (by omega) σ1 _ ⟨fun c => skip (fun z => by rw [b2i_0.mp c] at z; cases z), fun c => ⟨vp_in_nI (by omega) (by omega), ?_⟩⟩⟩
      have hU : bt U jj = true := b2i_n.mp c
      rw [nI_clamp (n := jj) (by omega), nI_clamp (n := i) (by omega)]
      have mj := rows_ σ1 f1 jj hjj
      refine s_X2_touch (d + 1) 18 _ rfl (tk_s3 (tk_shp (by omega))) σ1 _ (fun y hy hnz => ⟨fun c => absurd c (by decide), fun _ z13 e13 => ⟨vp_in_nI (by omega) (by omega), vp_in_nI (by omega) (by omega), vp_in_nI (by omega) (by omega), vp_in_nI (by omega) (by omega), fun σ18 e18 => ?_⟩⟩) (fun hz => ⟨fun _ => skip (fun _ hr => ?_), fun c => absurd rfl c⟩)
      · obtain ⟨x, hx, b1, b2⟩ := and_nz.mp hnz
        have b1 : bt (σ1.1 19 y) x = true := b1
        rw [show 1 + 71 + 5 * jj + 3 + 1 = 72 + 5 * jj + 4 by omega] at b2
        rw [m1 x y hy] at b1
        rw [mj x y hy] at b2
        obtain ⟨hx24, x', y', p, r⟩ := pB_t.mp b1
        have q := (pB_t.mp b2).2
        have hre : reach a i jj s := ⟨x', y', x, y, p, q, by omega⟩
        rw [u1 jj] at hU
        have hU := pB_t.mp hU
        have hfar : isFar a i jj s := ⟨hs, hre, hU.2.1⟩
        have fr18 : Fr (frMs i) σ1 σ18 := by
          rw [e18]
          exact (Fr.up σ1 _ (Or.inr ⟨by omega, by omega, Or.inl (by omega)⟩)).tr (Fr.up _ _ (Or.inr ⟨by omega, by omega, Or.inr rfl⟩))
        refine ih2 z13 σ18 (f1.tr fr18) (by rw [e18]; exact g1) (fun x y hy => ?_) (fun j => ?_) (fun j hj hb => ?_)
        · rw [e18, rd_o' (by omega), rd_o' (by omega)]; exact m1 x y hy
        · rw [e13]
          by_cases hj32 : j < 32
          · rw [b_and, bt_not _ hj32, bt_1 (by omega), u1 j]
            by_cases e : j = jj
            · subst e
              rw [decide_eq_true rfl, Bool.not_true, Bool.and_false]
              exact (pB_f.mpr (fun z => z.2.2 (by omega) hre)).symm
            · rw [decide_eq_false e, Bool.not_false, Bool.and_true]
              refine pB_c ⟨fun q => ⟨q.1, q.2.1, fun z => q.2.2 (by omega)⟩, fun q => ⟨q.1, q.2.1, fun z => q.2.2 (by omega)⟩⟩
          · rw [b_big (by omega)]; exact (pB_f.mpr (fun z => by omega)).symm
        · by_cases e : j = jj
          · subst e
            refine ⟨s, ?_, ?_, hfar⟩
            · rw [e18, tk_up_at]
              by_cases e2 : 6 + i = 5 + 1 + 1 * j ∧ j = i
              · rw [if_pos e2]
              · rw [if_neg e2, tk_up_at, if_pos ⟨by omega, rfl⟩]
            · rw [e18, tk_up_at, if_pos ⟨by omega, rfl⟩]
          · have hbU : bt U j = false := by
              rw [e13, b_and, bt_not _ (by omega), bt_1 (by omega), decide_eq_false e, Bool.not_false, Bool.and_true] at hb
              exact hb
            obtain ⟨f, z1, z2, z3⟩ := d1 j hj hbU
            by_cases eij : j = i
            · subst eij
              refine ⟨f, ?_, ?_, z3⟩
              · rw [e18, rd_o' (by omega), rd_o' (by omega)]; exact z1
              · rw [e18, rd_o' (by omega), rd_o' (by omega)]; exact z2
            · refine ⟨f, ?_, ?_, z3⟩
              · rw [e18, rd_o' (by omega), rd_o' (by omega)]; exact z1
              · rw [e18, rd_o' (by omega), rd_o' (by omega)]; exact z2
      · obtain ⟨x', y', x, y, p, q, r⟩ := hr
        have hz1 := hz y q.2.1
        refine and_nz.mpr ⟨x, by have := q.1; omega, ?_, ?_⟩ hz1
        · exact (m1 x y q.2.1).trans (pB_t.mpr ⟨q.1, x', y', p, by omega⟩)
        · rw [show 1 + 71 + 5 * jj + 3 + 1 = 72 + 5 * jj + 4 by omega]
          exact (mj x y q.2.1).trans (pB_t.mpr ⟨q.1, q⟩)
