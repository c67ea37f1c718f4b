/-! TEXTURES: the order of prices; the weight as digits -/
def ordP (a : Ab) (s t : Nat) : Prop := aPr a s < aPr a t ∨ (aPr a s = aPr a t ∧ s < t)
theorem ordP_tr {a : Ab} {r s t : Nat} (h : ordP a r s) (h2 : ordP a s t) : ordP a r t := by unfold ordP at *; omega
theorem ordP_ir {a : Ab} {t : Nat} (h : ordP a t t) : False := by unfold ordP at h; omega
theorem ordP_tot {a : Ab} {s t : Nat} (h : s ≠ t) : ordP a s t ∨ ordP a t s := by unfold ordP; omega
noncomputable def rkT (a : Ab) (t : Nat) : Nat := cnt (fun s => pB (ordP a s t)) 4
theorem rk_lt (a : Ab) {t : Nat} (ht : t < 4) : rkT a t < 4 := by
  have := cnt_sl (p := fun s => pB (ordP a s t)) (q := fun _ => true) (n := 4) (k := t) (fun _ _ _ => rfl) ht (pB_f.mpr ordP_ir) rfl
  exact this
theorem rk_mono {a : Ab} {s t : Nat} (hs : s < 4) (h : ordP a s t) : rkT a s < rkT a t :=
  cnt_sl (n := 4) (k := s) (fun i _ hi => pB_t.mpr (ordP_tr (pB_t.mp hi) h)) hs (pB_f.mpr ordP_ir) (pB_t.mpr h)
theorem rk_inj {a : Ab} {s t : Nat} (hs : s < 4) (ht : t < 4) (h : rkT a s = rkT a t) : s = t := by
  by_cases e : s = t
  · exact e
  · rcases ordP_tot (a := a) e with q | q
    · have := rk_mono hs q; omega
    · have := rk_mono ht q; omega
theorem rk_sur (a : Ab) {k : Nat} (hk : k < 4) : ∃ t, t < 4 ∧ rkT a t = k := by
  have l0 := rk_lt a (t := 0) (by omega)
  have l1 := rk_lt a (t := 1) (by omega)
  have l2 := rk_lt a (t := 2) (by omega)
  have l3 := rk_lt a (t := 3) (by omega)
  have n01 : rkT a 0 ≠ rkT a 1 := fun q => by have := rk_inj (by omega) (by omega) q; omega
  have n02 : rkT a 0 ≠ rkT a 2 := fun q => by have := rk_inj (by omega) (by omega) q; omega
  have n03 : rkT a 0 ≠ rkT a 3 := fun q => by have := rk_inj (by omega) (by omega) q; omega
  have n12 : rkT a 1 ≠ rkT a 2 := fun q => by have := rk_inj (by omega) (by omega) q; omega
  have n13 : rkT a 1 ≠ rkT a 3 := fun q => by have := rk_inj (by omega) (by omega) q; omega
  have n23 : rkT a 2 ≠ rkT a 3 := fun q => by have := rk_inj (by omega) (by omega) q; omega
  have : k = rkT a 0 ∨ k = rkT a 1 ∨ k = rkT a 2 ∨ k = rkT a 3 := by omega
  rcases this with q | q | q | q
  · exact ⟨0, by omega, q.symm⟩
  · exact ⟨1, by omega, q.symm⟩
  · exact ⟨2, by omega, q.symm⟩
  · exact ⟨3, by omega, q.symm⟩
theorem low_bit : ∀ m, m < 16 → 1 ≤ m → ∃ t, t < 4 ∧ m.testBit t = true := by
  intro m h1 h2
  have : ∀ m, m < 16 → 1 ≤ m → (m.testBit 0 || m.testBit 1 || m.testBit 2 || m.testBit 3) = true := by decide +kernel
  have := this m h1 h2
  rw [Bool.or_eq_true, Bool.or_eq_true, Bool.or_eq_true] at this
  rcases this with ((q | q) | q) | q
  · exact ⟨0, by omega, q⟩
  · exact ⟨1, by omega, q⟩
  · exact ⟨2, by omega, q⟩
  · exact ⟨3, by omega, q⟩
theorem s_first (d : Nat) {a : Ab} (σ : tk_S) (h34 : ∀ t, t < 4 → σ.1 34 (rkT a t) = nI t) {m : Nat} (hm : m < 16) (h1 : 1 ≤ m) (Q : Int32 → tk_S → Prop) (h : ∀ c, isChp a m c → Q (nI c) σ) : p_X6_firstByPrice (d + 1) [aN 30, aI (nI m)] σ Q := by
  refine e_X6_firstByPrice (d + 1) _ (b_X6_firstByPrice_0 d _ σ Q ?_)
  have L := up_loop (fun k => (∀ t, t < 4 → rkT a t < k → m.testBit t = false) → g_X6_firstByPrice (d + 1) 2 [(0, aN 30), (1, aI (nI m)), (2, aI (nI k))] σ Q) 4 ?_ ?_
  · exact L (fun t _ ht => by omega)
  · intro hz
    obtain ⟨t, t1, t2⟩ := low_bit m hm h1
    rw [hz t t1 (rk_lt a t1)] at t2; cases t2
  · intro k hk ih hz
    refine b_X6_firstByPrice_2 d _ _ σ Q ⟨fun c => absurd ((le_nI (n := 4) (by omega) (by omega)).mp c) (by omega), fun _ => ⟨vp_in_nI hk (by omega), ?_⟩⟩
    obtain ⟨c, c1, c2⟩ := rk_sur a hk
    rw [nI_clamp (by omega), ← c2, h34 c c1]
    refine s_X7_has d _ (by omega) σ _ ?_
    rw [bt_nI _ (by omega), c2, nI_1]
    refine ⟨fun z => ih (fun t t1 t2 => ?_), fun z => ⟨vp_in_nI hk (by omega), ?_⟩⟩
    · by_cases e : t = c
      · subst e; exact b2i_0.mp z
      · refine hz t t1 ?_
        have : rkT a t ≠ rkT a c := fun q => e (rk_inj t1 c1 q)
        omega
    · rw [← c2, h34 c c1]
      refine h c ⟨c1, b2i_n.mp z, fun t t1 t2 => ?_⟩
      by_cases e : t = c
      · subst e; exact Or.inr ⟨rfl, Nat.le_refl _⟩
      · rcases ordP_tot (a := a) e with q | q
        · have := rk_mono t1 q
          rw [hz t t1 (by omega)] at t2; cases t2
        · unfold ordP at q
          omega
set_option maxHeartbeats 1000000 in
theorem s_rank (d : Nat) {a : Ab} (hw : WF a) (σ : tk_S) (hp : ∀ t, t < 4 → σ.1 32 t = nI (aPr a t)) (Q : tk_S → Prop) (h : ∀ (σ' : tk_S) (C : Nat → Nat), Fr (fun k _ => k = 34 ∨ k = 35) σ σ' → σ'.2 = σ.2 → (∀ t, t < 4 → σ'.1 34 (rkT a t) = nI t) → (∀ m, 1 ≤ m → m < 16 → σ'.1 35 m = nI (C m) ∧ isChp a m (C m)) → Q σ') : p_X6_rankTextures (d + 2) [aN 30] σ Q := by
  have hp9 := hw.2.2.2.2.2.2.2.2.2.1
  refine e_X6_rankTextures (d + 2) (b_X6_rankTextures_0 (d + 1) σ Q ?_)
  have L := up_loop (fun t => ∀ σ1, Fr (fun k _ => k = 34) σ σ1 → σ1.2 = σ.2 → (∀ t', t' < t → σ1.1 34 (rkT a t') = nI t') → g_X6_rankTextures (d + 2) 2 [(0, aN 30), (1, aI (nI t))] σ1 Q) 4 ?_ ?_
  · exact L σ (Fr.rf σ) rfl (fun t' ht' => by omega)
  · intro σ1 f1 g1 c1
    refine b_X6_rankTextures_2 (d + 1) _ σ1 Q ⟨fun _ => ?_, fun q => absurd (by decide) q⟩
    have L2 := up_from (fun m => ∀ σ2, Fr (fun k _ => k = 34 ∨ k = 35) σ σ2 → σ2.2 = σ.2 → (∀ t, t < 4 → σ2.1 34 (rkT a t) = nI t) → (∀ m', 1 ≤ m' → m' < m → ∃ c, σ2.1 35 m' = nI c ∧ isChp a m' c) → g_X6_rankTextures (d + 2) 92 [(0, aN 30), (1, aI (nI m))] σ2 Q) 16 1 (by omega) ?_ ?_
    · exact L2 σ1 (f1.wk (fun k j q => Or.inl q)) g1 c1 (fun m' h1 h2 => by omega)
    · intro σ2 f2 g2 c2 k2
      refine b_X6_rankTextures_92 (d + 1) _ σ2 Q ⟨fun _ => ?_, fun q => absurd (by decide) q⟩
      obtain ⟨C, hC⟩ : ∃ C : Nat → Nat, ∀ m, 1 ≤ m → m < 16 → σ2.1 35 m = nI (C m) ∧ isChp a m (C m) := by
        have := Classical.skolem.mp (fun m => (by
          by_cases q : 1 ≤ m ∧ m < 16
          · obtain ⟨c, e1, e2⟩ := k2 m q.1 q.2
            exact ⟨c, fun _ _ => ⟨e1, e2⟩⟩
          · exact ⟨0, fun q1 q2 => absurd ⟨q1, q2⟩ q⟩ : ∃ c : Nat, 1 ≤ m → m < 16 → σ2.1 35 m = nI c ∧ isChp a m c))
        exact this
      exact h σ2 C f2 g2 c2 hC
    · intro m m1 m2 ih σ2 f2 g2 c2 k2
      refine b_X6_rankTextures_92 (d + 1) _ σ2 Q ⟨fun q => absurd ((lt_nI (n := 15) (by omega) (by omega)).mp q) (by omega), fun _ => ?_⟩
      refine s_first d σ2 c2 m2 m1 _ (fun c hc => ⟨vp_in_nI m2 (by omega), ?_⟩)
      rw [nI_clamp (by omega), nI_1]
      refine ih _ (f2.tr (Fr.up _ _ (Or.inr rfl))) g2 (fun t ht => by rw [rd_o (by omega)]; exact c2 t ht) (fun m' h1 h2 => ?_)
      by_cases e : m' = m
      · subst e; exact ⟨c, rd_s, hc⟩
      · rw [rd_o (by omega)]; exact k2 m' h1 (by omega)
  · intro t ht ih σ1 f1 g1 c1
    refine b_X6_rankTextures_2 (d + 1) _ σ1 Q ⟨fun q => absurd ((le_nI (n := 4) (by omega) (by omega)).mp q) (by omega), fun _ => ?_⟩
    have hp1 : ∀ s, s < 4 → σ1.1 32 s = nI (aPr a s) := fun s hs => by rw [f1 _ _ (by omega)]; exact hp s hs
    have L2 := up_loop (fun s => g_X6_rankTextures (d + 2) 11 [(0, aN 30), (1, aI (nI t)), (2, aI (nI (cnt (fun s => pB (ordP a s t)) s))), (3, aI (nI s))] σ1 Q) 4 ?_ ?_
    · exact L2
    · refine b_X6_rankTextures_11 (d + 1) _ _ _ σ1 Q ⟨fun _ => ⟨vp_in_nI (rk_lt a ht) (by omega), ?_⟩, fun q => absurd (by decide) q⟩
      have hr := rk_lt a ht
      rw [nI_clamp (show cnt (fun s => pB (ordP a s t)) 4 < 2 ^ 31 from Nat.lt_trans hr (by omega)), nI_1]
      refine ih _ (f1.tr (Fr.up _ _ rfl)) g1 (fun t' ht' => ?_)
      by_cases e : t' = t
      · subst e; exact rd_s
      · have : rkT a t' ≠ rkT a t := fun q => e (rk_inj (by omega) ht q)
        show (tk_up σ1 34 (rkT a t) (nI t)).1 34 (rkT a t') = _
        rw [rd_o (fun q => this q.2)]; exact c1 t' (by omega)
    · intro s hs ihs
      have hps := hp9 s hs
      have hpt := hp9 t ht
      have up : ∀ b : Bool, pB (ordP a s t) = b → cnt (fun s => pB (ordP a s t)) (s + 1) = cnt (fun s => pB (ordP a s t)) s + (if b then 1 else 0) := fun b hb => by
        show cnt (fun s => pB (ordP a s t)) s + (if pB (ordP a s t) then 1 else 0) = _
        rw [hb]
      have yes : ordP a s t → g_X6_rankTextures (d + 2) 11 [(0, aN 30), (1, aI (nI t)), (2, aI (nI (cnt (fun s => pB (ordP a s t)) s) + 1)), (3, aI (nI s + 1))] σ1 Q := fun q => by
        rw [nI_1, nI_1]
        have e := up true (pB_t.mpr q)
        rw [e] at ihs
        exact ihs
      have no : ¬ ordP a s t → g_X6_rankTextures (d + 2) 11 [(0, aN 30), (1, aI (nI t)), (2, aI (nI (cnt (fun s => pB (ordP a s t)) s) + 0)), (3, aI (nI s + 1))] σ1 Q := fun q => by
        rw [nI_1, show nI (cnt (fun s => pB (ordP a s t)) s) + 0 = nI (cnt (fun s => pB (ordP a s t)) s + 0) from nI_add _ 0]
        have e := up false (pB_f.mpr q)
        rw [e] at ihs
        exact ihs
      refine b_X6_rankTextures_11 (d + 1) _ _ _ σ1 Q ⟨fun q => absurd ((le_nI (n := 4) (by omega) (by omega)).mp q) (by omega), fun _ => ⟨vp_in_nI hs (by omega), vp_in_nI ht (by omega), ?_⟩⟩
      rw [nI_clamp (by omega), nI_clamp (by omega), hp1 s hs, hp1 t ht, lt_nI (by omega) (by omega), nI_eq (by omega) (by omega), le_nI (by omega) (by omega)]
      refine ⟨fun q => yes (Or.inl q), fun q => ⟨vp_in_nI hs (by omega), vp_in_nI ht (by omega), fun q2 => no (fun z => by unfold ordP at z; omega), fun q2 => ⟨fun q3 => no (fun z => by unfold ordP at z; omega), fun q3 => yes (Or.inr ⟨q2, by omega⟩)⟩⟩⟩
/-- digits, the first the greatest -/
def dig (e : Nat → Nat) : Nat → Nat
  | 0 => 0
  | n + 1 => dig e n + e n * 4 ^ (11 - n)
theorem dig_c {e e' : Nat → Nat} : ∀ {n : Nat}, (∀ i, i < n → e i = e' i) → dig e n = dig e' n := by
  intro n
  induction n with
  | zero => intro _; rfl
  | succ n ih => intro h; show dig e n + e n * 4 ^ (11 - n) = dig e' n + e' n * 4 ^ (11 - n); rw [ih (fun i hi => h i (by omega)), h n (by omega)]
theorem p4 {n : Nat} (h1 : 1 ≤ n) (h : n ≤ 11) : 4 ^ (11 - (n - 1)) = 4 * 4 ^ (11 - n) := by
  rw [show 11 - (n - 1) = (11 - n) + 1 by omega, Nat.pow_succ]; omega
theorem dig_gt {e e' : Nat → Nat} {i : Nat} (he : ∀ j, e' j < 4) (h0 : ∀ j, j < i → e j = e' j) (h : e' i < e i) : ∀ n, i + 1 ≤ n → n ≤ 12 → dig e' n + 4 ^ (11 - (n - 1)) ≤ dig e n := by
  intro n h1
  induction n with
  | zero => omega
  | succ n ih =>
    intro hn
    by_cases q : n = i
    · subst q
      show dig e' n + e' n * 4 ^ (11 - n) + 4 ^ (11 - (n + 1 - 1)) ≤ dig e n + e n * 4 ^ (11 - n)
      rw [dig_c h0, Nat.add_sub_cancel, Nat.add_assoc, show e' n * 4 ^ (11 - n) + 4 ^ (11 - n) = (e' n + 1) * 4 ^ (11 - n) by rw [Nat.add_mul, Nat.one_mul]]
      exact Nat.add_le_add_left (Nat.mul_le_mul_right _ h) _
    · have := ih (by omega) (by omega)
      show dig e' n + e' n * 4 ^ (11 - n) + 4 ^ (11 - (n + 1 - 1)) ≤ dig e n + e n * 4 ^ (11 - n)
      rw [p4 (by omega) (by omega)] at this
      rw [Nat.add_sub_cancel]
      have h3 : e' n * 4 ^ (11 - n) ≤ 3 * 4 ^ (11 - n) := Nat.mul_le_mul_right _ (by have := he n; omega)
      omega
theorem dig_lex {e e' : Nat → Nat} (he : ∀ j, e' j < 4) {n : Nat} (hn : n ≤ 12) (h : dig e n ≤ dig e' n) : lexLE n e e' := by
  have : ∀ m, (∀ c, c < m → e c = e' c) ∨ ∃ c, c < m ∧ e c ≠ e' c ∧ ∀ c', c' < c → e c' = e' c' := by
    intro m
    induction m with
    | zero => exact Or.inl (fun c h => by omega)
    | succ m ih =>
      rcases ih with q | ⟨c, q1, q2⟩
      · by_cases z : e m = e' m
        · refine Or.inl (fun c hc => ?_)
          by_cases z2 : c = m
          · subst z2; exact z
          · exact q c (by omega)
        · exact Or.inr ⟨m, by omega, z, q⟩
      · exact Or.inr ⟨c, by omega, q2⟩
  rcases this n with q | ⟨c, q1, q2, q3⟩
  · exact Or.inl q
  · rcases Nat.lt_or_ge (e c) (e' c) with z | z
    · exact Or.inr ⟨c, q1, z, q3⟩
    · have := dig_gt he q3 (by omega) n (by omega) hn
      have : 0 < 4 ^ (11 - (n - 1)) := Nat.pow_pos (by omega)
      omega
theorem dig_top {e : Nat → Nat} (he : ∀ j, e j < 4) : ∀ n, n ≤ 12 → dig e n + 4 ^ (12 - n) ≤ 16777216 := by
  intro n
  induction n with
  | zero => intro _; show (0 : Nat) + 4 ^ (12 - 0) ≤ 16777216; decide
  | succ n ih =>
    intro hn
    have := ih (by omega)
    rw [show 12 - n = (11 - n) + 1 by omega, Nat.pow_succ] at this
    show dig e n + e n * 4 ^ (11 - n) + 4 ^ (12 - (n + 1)) ≤ _
    rw [show 12 - (n + 1) = 11 - n by omega]
    have h3 : e n * 4 ^ (11 - n) ≤ 3 * 4 ^ (11 - n) := Nat.mul_le_mul_right _ (by have := he n; omega)
    omega
theorem dig_pre (e : Nat → Nat) : ∀ i, i ≤ 11 → ∃ K, dig e i = 4 ^ (11 - i) * (4 * K) := by
  intro i
  induction i with
  | zero => intro _; exact ⟨0, rfl⟩
  | succ i ih =>
    intro hi
    obtain ⟨K, hK⟩ := ih (by omega)
    refine ⟨4 * K + e i, ?_⟩
    show dig e i + e i * 4 ^ (11 - i) = _
    rw [hK, show 11 - i = (11 - (i + 1)) + 1 by omega, Nat.pow_succ]
    generalize 4 ^ (11 - (i + 1)) = P
    rw [Nat.mul_comm (e i), ← Nat.mul_add, Nat.mul_assoc]
theorem dig_tail {e : Nat → Nat} (he : ∀ j, e j < 4) (i : Nat) : ∀ n, i + 1 ≤ n → n ≤ 12 → dig e (i + 1) ≤ dig e n ∧ dig e n + 4 ^ (11 - (n - 1)) ≤ dig e (i + 1) + 4 ^ (11 - i) := by
  intro n h1
  induction n with
  | zero => omega
  | succ n ih =>
    intro hn
    by_cases q : n = i
    · subst q; exact ⟨Nat.le_refl _, Nat.le_refl _⟩
    · have := ih (by omega) (by omega)
      rw [p4 (by omega) (by omega)] at this
      have h3 : e n * 4 ^ (11 - n) ≤ 3 * 4 ^ (11 - n) := Nat.mul_le_mul_right _ (by have := he n; omega)
      have e1 : dig e (n + 1) = dig e n + e n * 4 ^ (11 - n) := rfl
      rw [Nat.add_sub_cancel]
      omega
theorem dig_at {e : Nat → Nat} (he : ∀ j, e j < 4) {i n : Nat} (hi : i < n) (hn : n ≤ 12) (T : Nat) : (T * 16777216 + dig e n) / 4 ^ (11 - i) % 4 = e i := by
  obtain ⟨K, hK⟩ := dig_pre e i (by omega)
  obtain ⟨t1, t2⟩ := dig_tail he i n (by omega) hn
  have e1 : dig e (i + 1) = dig e i + e i * 4 ^ (11 - i) := rfl
  have e2 : (16777216 : Nat) = 4 ^ (11 - i) * (4 * 4 ^ i) := by
    rw [show (16777216 : Nat) = 4 ^ 12 from rfl, show 4 * 4 ^ i = 4 ^ (i + 1) by rw [Nat.pow_succ]; omega, ← Nat.pow_add]
    congr 1
    omega
  have hp : 0 < 4 ^ (11 - (n - 1)) := Nat.pow_pos (by omega)
  have hp2 : 0 < 4 ^ (11 - i) := Nat.pow_pos (by omega)
  obtain ⟨r, hr⟩ : ∃ r, dig e n = dig e (i + 1) + r := ⟨dig e n - dig e (i + 1), by omega⟩
  have hr2 : r < 4 ^ (11 - i) := by omega
  have key : T * 16777216 + dig e n = 4 ^ (11 - i) * (4 * (T * 4 ^ i + K) + e i) + r := by
    rw [hr, e1, hK, e2]
    generalize 4 ^ (11 - i) = P
    generalize 4 ^ i = R
    rw [Nat.mul_add, Nat.mul_add 4, Nat.mul_add, Nat.mul_comm (e i) P, show T * (P * (4 * R)) = P * (4 * (T * R)) by rw [Nat.mul_left_comm, Nat.mul_left_comm T 4]]
    omega
  rw [key, Nat.mul_add_div hp2, Nat.div_eq_of_lt hr2]
  have h4 := he i
  clear key hK e1 e2 hr t1 t2 hr2 hp hp2
  omega
