/-! the step of: how many pins, and the rest -/
theorem cnt_rows (p : Nat → Bool) : ∀ y, cnt p (24 * y + 24) = cnt p (24 * y) + cnt (fun x => p (24 * y + x)) 24 := fun y => cnt_add p (24 * y) 24
theorem xrow_24 {σ : tk_S} {K : Nat} {S : Nat → Nat → Prop} (h : xrow σ K S) {y : Nat} (hy : y < 24) : ∀ i, 24 ≤ i → bt (σ.1 K y) i = false := fun i hi => by rw [h i y hy]; exact pB_f.mpr (fun q => by omega)
set_option maxHeartbeats 1000000 in
theorem s_X2_size (d k : Nat) (hk : tk_sh k = tk_pins) (S : Nat → Nat → Prop) (σ : tk_S) (hS : xrow σ (k + 1) S) (Q : Int32 → tk_S → Prop) (h : Q (nI (cnt (fun p => pB (S (p % 24) (p / 24))) 576)) σ) : p_X2_size (d + 1) [aN k] σ Q := by
  refine e_X2_size (d + 1) k (b_X2_size_0 d k hk σ Q ?_)
  have L := up_loop (fun y => g_X2_size (d + 1) 4 [(0, aN k), (1, aI (nI (cnt (fun p => pB (S (p % 24) (p / 24))) (24 * y)))), (2, aI (nI y))] σ Q) 24 ?_ ?_
  · exact L
  · exact b_X2_size_4 d k hk _ _ σ Q ⟨fun _ => h, fun c => absurd (by decide) c⟩
  · intro y hy ih
    refine b_X2_size_4 d k hk _ _ σ Q ⟨fun c => absurd ((le_nI (n := 24) (by omega) (by omega)).mp c) (by omega), fun _ => ⟨vp_in_nI hy (by omega), ?_⟩⟩
    rw [nI_clamp (by omega), nI_1]
    refine s_bitCount d _ (xrow_24 hS hy) σ _ (fun z6 e6 => ?_)
    rw [nI_add] at e6
    have e : cnt (fun p => pB (S (p % 24) (p / 24))) (24 * (y + 1)) = cnt (fun p => pB (S (p % 24) (p / 24))) (24 * y) + cnt (bt (σ.1 (k + 1) y)) 24 := by
      rw [show 24 * (y + 1) = 24 * y + 24 by omega, cnt_rows]
      congr 1
      refine cnt_c (fun x hx => ?_)
      rw [hS x y hy, show (24 * y + x) % 24 = x by omega, show (24 * y + x) / 24 = y by omega]
      exact pB_c ⟨fun q => ⟨hx, q⟩, fun q => q.2⟩
    rw [e6, ← e]
    exact ih
theorem s_X8_count (d i : Nat) (hi : i < 12) (S : Nat → Nat → Prop) (σ : tk_S) (hS : mpin σ i S) (Q : Int32 → tk_S → Prop) (h : Q (nI (cnt (fun p => pB (S (p % 24) (p / 24))) 576)) σ) : g_X8_of (d + 1) 61 [(0, aN 132), (1, aI (nI i)), (3, aI 0), (4, aI 0)] σ Q := by
  have L := up_loop (fun p => g_X8_of (d + 1) 61 [(0, aN 132), (1, aI (nI i)), (3, aI (nI (cnt (fun p => pB (S (p % 24) (p / 24))) p))), (4, aI (nI p))] σ Q) 576 ?_ ?_
  · exact L
  · exact b_X8_of_61 d _ _ _ σ Q ⟨fun _ => h, fun c => absurd (by decide) c⟩
  · intro p hp ih
    refine b_X8_of_61 d _ _ _ σ Q ⟨fun c => absurd ((le_nI (n := 576) (by omega) (by omega)).mp c) (by omega), fun _ => ?_⟩
    rw [ix576b, nI_clamp (by omega), mpin_at hS hp, nI_1, nI_1]
    have e : ∀ b, pB (S (p % 24) (p / 24)) = b → cnt (fun p => pB (S (p % 24) (p / 24))) (p + 1) = cnt (fun p => pB (S (p % 24) (p / 24))) p + (if b then 1 else 0) := fun b hb => by
      show cnt (fun p => pB (S (p % 24) (p / 24))) p + (if pB (S (p % 24) (p / 24)) then 1 else 0) = _
      rw [hb]
    refine ⟨vp_in_nI (by omega) (by omega), fun c => ?_, fun c => ?_⟩
    · have e1 := e false (b2i_0.mp c)
      simp only [Bool.false_eq_true, if_false, Nat.add_zero] at e1
      rw [e1] at ih
      rw [show nI (cnt (fun p => pB (S (p % 24) (p / 24))) p) + 0 = nI (cnt (fun p => pB (S (p % 24) (p / 24))) p) by rw [show (0 : Int32) = nI 0 from rfl, nI_add, Nat.add_zero]]
      exact ih
    · have e1 := e true (b2i_n.mp c)
      simp only [if_true] at e1
      rw [e1] at ih
      exact ih
theorem half (x : Nat) (hx : x < 2 ^ 31) : nI x / 2 = nI (x / 2) := pk_div (d := 2) hx (by omega) (by omega)
theorem odd2 (x : Nat) (hx : x < 2 ^ 31) : nI x - nI x / 2 * 2 = nI (x % 2) := pk_rem (d := 2) hx (by omega) (by omega)
set_option maxHeartbeats 2000000 in
theorem step_of (d : Nat) (x y : Int32) (σ : tk_S) (hR : Rel σ) : p_X7_of (d + 2) [aN 0, aI x, aI y] σ (fun r σ1 => p_X8_of (d + 2) [aN 132, aI x, aI y] σ1 (fun r' σ2 => r = r' ∧ Rel σ2)) := by
  obtain ⟨a, hw, hX, hK, hF, hM⟩ := id hR
  have hn12 : aN0 a ≤ 12 := hw.1
  refine e_X7_of (d + 2) x y (b_X7_of_0 (d + 1) x y σ _ ?_)
  refine s_X7_isShape (d + 1) x hn12 σ hX.1 _ (fun i hi ei => ⟨fun _ => ?_, fun c => absurd c (by decide)⟩) (fun hn => ⟨fun c => absurd rfl c, fun _ => ?_⟩)
  · subst ei
    rw [nI_clamp (by omega)]
    refine ⟨vp_in_nI (by omega) (by omega), ?_⟩
    have hs := hX.2.2.2.2.1 i hi
    have ms := hM.2.2.2.2.1 i hi
    have ws := hw.2.2.2.2.2.1 i hi
    have mk : ∀ r : Int32, (y = 0 → r = nI (aKi a i)) → (y = 1 → r = nI (aWo a i)) → (y = 2 → r = nI (cnt (fun p => pB (pinP a i (p % 24) (p / 24))) 576)) → (y = 3 → r = if aKi a i = 0 then nI (aNc a i) else 0) → (¬ y = 0 → ¬ y = 1 → ¬ y = 2 → ¬ y = 3 → (∀ k, k < aNc a i → y = nI (10 + 2 * k) → r = nI (aX a i k)) ∧ (∀ k, k < aNc a i → y = nI (11 + 2 * k) → r = nI (aY a i k)) ∧ ((¬ ∃ v, 10 ≤ v ∧ v ≤ 9 + 2 * aNc a i ∧ y = nI v) → r = -1)) → p_X8_of (d + 2) [aN 132, aI (nI i), aI y] σ (fun r' σ2 => r = r' ∧ Rel σ2) := by
      intro r h0 h1 h2 h3 h4
      refine e_X8_of (d + 2) _ _ (b_X8_of_0 (d + 1) _ _ σ _ ?_)
      refine s_X8_isShape d _ hn12 σ hM.1 _ (fun _ _ _ => ⟨fun _ => ?_, fun c => absurd c (by decide)⟩) (fun hn => absurd ⟨i, hi, rfl⟩ hn)
      rw [nI_clamp (by omega), ms.1, ms.2.1, ms.2.2.1]
      refine ⟨fun c => ⟨vp_in_nI (by omega) (by omega), h0 c, hR⟩, fun c => ⟨vp_in_nI (by omega) (by omega), h1 c, hR⟩, fun c => ?_, fun c => ⟨vp_in_nI (by omega) (by omega), fun c2 => ⟨?_, hR⟩, fun c2 => ⟨vp_in_nI (by omega) (by omega), ?_, hR⟩⟩, fun c0 c1 c2 c3 => ⟨vp_in_nI (by omega) (by omega), ?_⟩⟩
      · exact s_X8_count (d + 1) i (by omega) (pinP a i) σ (fun x y hx hy => ms.2.2.2.2 x y hx hy) _ ⟨h2 c, hR⟩
      · rw [h3 c, if_neg (fun q => c2 (by rw [q]; rfl))]
      · rw [h3 c, if_pos ((nI_eq (b := 0) (by have := ws.1; omega) (by omega)).mp c2)]
      · obtain ⟨hx, hy, hz⟩ := h4 c0 c1 c2 c3
        have hnc := ws.2.2.2.2.1
        rw [show (9 : Int32) + 2 * nI (aNc a i) = nI (9 + 2 * aNc a i) by show nI 9 + nI 2 * nI (aNc a i) = _; rw [pk_mul, nI_add]]
        refine s_X8_isInN (d + 1) y 10 (9 + 2 * aNc a i) (by omega) (by omega) σ _ (fun v hv1 hv2 ev => ⟨fun _ z19 e19 => ?_, fun c => absurd c (by decide)⟩) (fun hn => ⟨fun c => absurd rfl c, fun _ => ⟨hz hn, hR⟩⟩)
        subst ev
        rw [show (10 : Int32) = nI 10 from rfl, pk_sub hv1, half _ (by omega)] at e19
        subst e19
        rw [odd2 v (by omega), ix8, nI_clamp (by omega)]
        have co := ms.2.2.2.1 ((v - 10) / 2) (by omega)
        refine ⟨fun c => ⟨vp_in_nI (by omega) (by omega), ?_, hR⟩, fun c => ⟨vp_in_nI (by omega) (by omega), ?_, hR⟩⟩
        · have hodd : v % 2 = 1 := by
            have : v % 2 ≠ 0 := fun q => c (by rw [q]; rfl)
            omega
          rw [co.2]
          exact hy _ (by omega) (by congr 1; omega)
        · have hev : v % 2 = 0 := (nI_eq (b := 0) (by omega) (by omega)).mp c
          rw [co.1]
          exact hx _ (by omega) (by congr 1; omega)
    have nn : ∀ {m n : Nat}, m ≠ n → m < 2 ^ 31 → n < 2 ^ 31 → ¬ nI m = nI n := fun h h1 h2 q => h ((nI_eq h1 h2).mp q)
    rw [show 1 + 71 + 5 * i = 72 + 5 * i by omega]
    refine ⟨fun c => ?_, fun c => ?_, fun c => ?_, fun c => ⟨fun c2 => ?_, fun c2 => ?_⟩, fun c0 c1 c2 c3 => ⟨fun c => ?_, fun c => ?_⟩⟩
    · exact mk _ (fun _ => hs.1) (fun q => absurd (c.symm.trans q) (by decide)) (fun q => absurd (c.symm.trans q) (by decide)) (fun q => absurd (c.symm.trans q) (by decide)) (fun q => absurd c q)
    · exact mk _ (fun q => absurd (c.symm.trans q) (by decide)) (fun _ => hs.2.1) (fun q => absurd (c.symm.trans q) (by decide)) (fun q => absurd (c.symm.trans q) (by decide)) (fun _ q => absurd c q)
    · have hsh : tk_sh (72 + 5 * i + 3) = tk_pins := by
        rw [show 72 + 5 * i + 3 = 1 + 71 + 5 * i + 3 by omega]
        exact tk_s3 (tk_shp (by omega))
      refine s_X2_size d _ hsh (pinP a i) σ (fun x y hy => ?_) _ ?_
      · rw [show 72 + 5 * i + 3 + 1 = 72 + 5 * i + 4 by omega, hs.2.2.2.2 x y hy]
        exact pB_c ⟨fun q => ⟨q.1, q⟩, fun q => q.2⟩
      · exact mk _ (fun q => absurd (c.symm.trans q) (by decide)) (fun q => absurd (c.symm.trans q) (by decide)) (fun _ => rfl) (fun q => absurd (c.symm.trans q) (by decide)) (fun _ _ q => absurd c q)
    · rw [hs.1] at c2
      exact mk _ (fun q => absurd (c.symm.trans q) (by decide)) (fun q => absurd (c.symm.trans q) (by decide)) (fun q => absurd (c.symm.trans q) (by decide)) (fun _ => by rw [if_neg (fun q => c2 (by rw [q]; rfl))]) (fun _ _ _ q => absurd c q)
    · rw [hs.1] at c2
      exact mk _ (fun q => absurd (c.symm.trans q) (by decide)) (fun q => absurd (c.symm.trans q) (by decide)) (fun q => absurd (c.symm.trans q) (by decide)) (fun _ => by rw [if_pos ((nI_eq (b := 0) (by have := ws.1; omega) (by omega)).mp c2)]; exact hs.2.2.1) (fun _ _ _ q => absurd c q)
    · have hy0 : ¬ y < 0 := fun q => by
        rw [Int32.lt_iff_toInt_lt] at q
        rw [Int32.le_iff_toInt_le] at c
        have h1 : (10 : Int32).toInt = 10 := by decide
        have h2 : (0 : Int32).toInt = 0 := by decide
        omega
      obtain ⟨v, hv, ev⟩ := nI_of hy0
      subst ev
      have hv10 := (le_nI (n := 10) (by omega) (by omega)).mp c
      rw [show (10 : Int32) = nI 10 from rfl, pk_sub hv10]
      have hnc := ws.2.2.2.2.1
      refine e_X3_coordinate (d + 1) _ _ (b_X3_coordinate_0 (d + 1) _ (by rw [show 72 + 5 * i = 1 + 71 + 5 * i by omega]; exact tk_shp (by omega)) _ σ _ (fun z1 e1 => ?_))
      rw [half _ (by omega)] at e1
      subst e1
      rw [odd2 _ (by omega), hs.2.2.1, nI_clamp (by omega)]
      refine ⟨fun c => absurd c (nI_pos (by omega)), fun _ => ⟨fun c => ⟨fun co => ⟨vp_in_nI (by have := (lt_nI (by omega) (by omega)).mp c; omega) (by omega), ?_⟩, fun co => ⟨vp_in_nI (by have := (lt_nI (by omega) (by omega)).mp c; omega) (by omega), ?_⟩⟩, fun c => ?_⟩⟩
      · have hl := (lt_nI (by omega) (by omega)).mp c
        have hodd : (v - 10) % 2 = 1 := by
          have : (v - 10) % 2 ≠ 0 := fun q => co (by rw [q]; rfl)
          omega
        refine mk _ (fun q => absurd q c0) (fun q => absurd q c1) (fun q => absurd q c2) (fun q => absurd q c3) (fun _ _ _ _ => ⟨fun k hk ek => ?_, fun k hk ek => ?_, fun hn => absurd ⟨v, hv10, by omega, rfl⟩ hn⟩)
        · have := (nI_eq (by omega) (by omega)).mp ek; omega
        · have := (nI_eq (by omega) (by omega)).mp ek
          rw [(hs.2.2.2.1 _ hl).2, show (v - 10) / 2 = k by omega]
      · have hl := (lt_nI (by omega) (by omega)).mp c
        have hev : (v - 10) % 2 = 0 := (nI_eq (b := 0) (by omega) (by omega)).mp co
        refine mk _ (fun q => absurd q c0) (fun q => absurd q c1) (fun q => absurd q c2) (fun q => absurd q c3) (fun _ _ _ _ => ⟨fun k hk ek => ?_, fun k hk ek => ?_, fun hn => absurd ⟨v, hv10, by omega, rfl⟩ hn⟩)
        · have := (nI_eq (by omega) (by omega)).mp ek
          rw [(hs.2.2.2.1 _ hl).1, show (v - 10) / 2 = k by omega]
        · have := (nI_eq (by omega) (by omega)).mp ek; omega
      · have hl : ¬ (v - 10) / 2 < aNc a i := fun q => c ((lt_nI (by omega) (by omega)).mpr q)
        refine mk _ (fun q => absurd q c0) (fun q => absurd q c1) (fun q => absurd q c2) (fun q => absurd q c3) (fun _ _ _ _ => ⟨fun k hk ek => ?_, fun k hk ek => ?_, fun hn => rfl⟩)
        · have := (nI_eq (by omega) (by omega)).mp ek; omega
        · have := (nI_eq (by omega) (by omega)).mp ek; omega
    · have hnc := ws.2.2.2.2.1
      refine mk _ (fun q => absurd q c0) (fun q => absurd q c1) (fun q => absurd q c2) (fun q => absurd q c3) (fun _ _ _ _ => ⟨fun k hk ek => ?_, fun k hk ek => ?_, fun hn => rfl⟩)
      · exact absurd (by rw [ek]; exact (le_nI (n := 10) (by omega) (by omega)).mpr (by omega)) c
      · exact absurd (by rw [ek]; exact (le_nI (n := 10) (by omega) (by omega)).mpr (by omega)) c
  · refine e_X8_of (d + 2) x y (b_X8_of_0 (d + 1) x y σ _ ?_)
    exact s_X8_isShape d x hn12 σ hM.1 _ (fun i hi ei => absurd ⟨i, hi, ei⟩ hn) (fun _ => ⟨fun c => absurd rfl c, fun _ => ⟨rfl, hR⟩⟩)
