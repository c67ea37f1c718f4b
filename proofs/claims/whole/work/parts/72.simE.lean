/-! simplify -/
/-- the index of the k-th of S below n -/
def pick (S : Nat → Bool) : Nat → Nat → Nat
  | 0, _ => 0
  | n + 1, k => if S n = true ∧ cnt S n = k then n else pick S n k
theorem pick_s (S : Nat → Bool) {c : Nat} (hc : S c = true) : ∀ n, c < n → pick S n (cnt S c) = c := by
  intro n
  induction n with
  | zero => intro h; omega
  | succ n ih =>
    intro h
    unfold pick
    by_cases e : c = n
    · subst e; rw [if_pos ⟨hc, rfl⟩]
    · have := cnt_lt (p := S) (m := c) (n := n) (by omega) hc
      rw [if_neg (fun q => by omega)]
      exact ih (by omega)
theorem pick_ex (S : Nat → Bool) : ∀ n k, k < cnt S n → ∃ c, c < n ∧ S c = true ∧ cnt S c = k := by
  intro n
  induction n with
  | zero => intro k h; exact absurd h (Nat.not_lt_zero _)
  | succ n ih =>
    intro k h
    have h : k < cnt S n + (if S n then 1 else 0) := h
    by_cases q : k < cnt S n
    · obtain ⟨c, h1, h2, h3⟩ := ih k q
      exact ⟨c, by omega, h2, h3⟩
    · cases e : S n
      · rw [e] at h; simp at h; omega
      · rw [e] at h; simp at h; exact ⟨n, by omega, e, by omega⟩
def subS (a : Ab) (i : Nat) (S : Nat → Bool) : Ab := fun c i' j => if c = 3 ∧ i' = i then cnt S (aNc a i) else if c = 4 ∧ i' = i then aX a i (pick S (aNc a i) j) else if c = 5 ∧ i' = i then aY a i (pick S (aNc a i) j) else a c i' j
section SU
variable (a : Ab) (i : Nat) (S : Nat → Bool)
theorem subS_nc : aNc (subS a i S) i = cnt S (aNc a i) := by simp [subS]
theorem subS_x (k : Nat) : aX (subS a i S) i k = aX a i (pick S (aNc a i) k) := by simp [subS]
theorem subS_y (k : Nat) : aY (subS a i S) i k = aY a i (pick S (aNc a i) k) := by simp [subS]
theorem subS_o {c i' j : Nat} (h : i' ≠ i) : subS a i S c i' j = a c i' j := by simp [subS, h]
theorem subS_c {c i' j : Nat} (h : c ≠ 3 ∧ c ≠ 4 ∧ c ≠ 5) : subS a i S c i' j = a c i' j := by simp [subS, h]
theorem subS_11 : (subS a i S) 11 = a 11 := by funext x y; exact subS_c a i S (by omega)
theorem subS_pin {i' : Nat} (h : i' ≠ i) (x y : Nat) : pinP (subS a i S) i' x y ↔ pinP a i' x y := pinP_c (subS_o a i S h) (subS_o a i S h) (fun _ => subS_o a i S h) (fun _ => subS_o a i S h) x y
theorem subS_ki (i' : Nat) : aKi (subS a i S) i' = aKi a i' := subS_c a i S (by omega)
theorem subS_wo (i' : Nat) : aWo (subS a i S) i' = aWo a i' := subS_c a i S (by omega)
theorem subS_all : aN0 (subS a i S) = aN0 a ∧ aWn (subS a i S) = aWn a ∧ aGap (subS a i S) = aGap a ∧ (∀ k, aWX (subS a i S) k = aWX a k) ∧ (∀ k, aWY (subS a i S) k = aWY a k) ∧ (∀ i' j, aMe (subS a i S) i' j = aMe a i' j) ∧ (∀ s t, aAp (subS a i S) s t = aAp a s t) ∧ (∀ t, aPr (subS a i S) t = aPr a t) ∧ (∀ x y, aUp (subS a i S) x y = aUp a x y) ∧ ∀ i', aWo (subS a i S) i' = aWo a i' := ⟨subS_c a i S (by omega), subS_c a i S (by omega), subS_c a i S (by omega), fun _ => subS_c a i S (by omega), fun _ => subS_c a i S (by omega), fun _ _ => subS_c a i S (by omega), fun _ _ => subS_c a i S (by omega), fun _ => subS_c a i S (by omega), fun _ _ => subS_c a i S (by omega), fun _ => subS_c a i S (by omega)⟩
theorem subS_WF (hw : WF a) (hi : i < aN0 a) (hk : aKi a i = 0) (h0 : S 0 = true) : WF (subS a i S) := by
  obtain ⟨w0, w1, w2, w3, w4, w5, w6, w7, w8, w9, w10⟩ := hw
  obtain ⟨e0, e1, e2, e3, e4, e5, e6, e7, e8, e9⟩ := subS_all a i S
  refine ⟨?_, ?_, ?_, ?_, fun k hk => ?_, fun i' hi' => ?_, fun i' j hi' hj => ?_, fun s t hs ht => ?_, fun s hs => ?_, fun t ht => ?_, fun x y hx hy => ?_⟩
  · rw [e0]; exact w0
  · rw [e1]; exact w1
  · rw [e2]; exact w2
  · rw [e2]; exact w3
  · rw [e1] at hk; rw [e3, e4]; exact w4 k hk
  · rw [e0] at hi'
    by_cases ei : i' = i
    · subst ei
      obtain ⟨q1, q2, q3, q4, q5, q6, q7, q8⟩ := w5 i' hi'
      have c1 : 1 ≤ cnt S (aNc a i') := by
        have := cnt_lt (p := S) (m := 0) (n := aNc a i') (by omega) h0
        omega
      have c2 := cnt_n S (aNc a i')
      refine ⟨by rw [subS_ki]; exact q1, by rw [subS_wo]; exact q2, by rw [subS_wo]; exact q3, by rw [subS_nc]; exact c1, by rw [subS_nc]; omega, fun k hk' => ?_, fun q => ?_, fun q => ?_⟩
      · rw [subS_nc] at hk'
        obtain ⟨c, p1, p2, p3⟩ := pick_ex S _ _ hk'
        rw [subS_x, subS_y, ← p3, pick_s S p2 _ p1]
        exact q6 c p1
      · rw [subS_ki] at q; omega
      · rw [subS_ki] at q; omega
    · exact WFs_c (subS_o a i S ei) (subS_o a i S ei) (subS_o a i S ei) (fun _ => subS_o a i S ei) (fun _ => subS_o a i S ei) (w5 i' hi')
  · rw [e0] at hi' hj; rw [e5, e5]; exact w6 i' j hi' hj
  · rw [e6, e6]; exact w7 s t hs ht
  · rw [e6]; exact w8 s hs
  · rw [e7]; exact w9 t ht
  · rw [e8]; exact w10 x y hx hy
end SU
set_option maxHeartbeats 1000000 in
theorem s_X3_keepPlaces (d k : Nat) (hk : tk_sh k = tk_shape) (a : Ab) (i : Nat) (hW : WFs a i) (σ : tk_S) (hC : xco a σ k i) (S : Nat) (Q : tk_S → Prop) (h : ∀ σ', Fr (fun k' j => (k' = k ∧ j = 2) ∨ k' = k + 1 ∨ k' = k + 2) σ σ' → σ'.2 = σ.2 → σ'.1 k 2 = nI (cnt (fun c => S.testBit c) (aNc a i)) → (∀ c, c < aNc a i → S.testBit c = true → σ'.1 (k + 1) (cnt (fun c => S.testBit c) c) = nI (aX a i c) ∧ σ'.1 (k + 2) (cnt (fun c => S.testBit c) c) = nI (aY a i c)) → Q σ') : p_X3_keepPlaces (d + 1) [aN k, aI (nI S)] σ Q := by
  have w5 := hW.2.2.2.2.1
  refine e_X3_keepPlaces (d + 1) k _ (b_X3_keepPlaces_0 d k hk _ σ Q (fun z1 e1 => ?_))
  rw [hC.2.1] at e1
  subst e1
  have L := up_loop (fun m => ∀ σ1, Fr (fun k' j => (k' = k ∧ j = 2) ∨ k' = k + 1 ∨ k' = k + 2) σ σ1 → σ1.2 = σ.2 → σ1.1 k 2 = nI (cnt (fun c => S.testBit c) m) → (∀ c, c < m → S.testBit c = true → σ1.1 (k + 1) (cnt (fun c => S.testBit c) c) = nI (aX a i c) ∧ σ1.1 (k + 2) (cnt (fun c => S.testBit c) c) = nI (aY a i c)) → (∀ c, m ≤ c → c < aNc a i → σ1.1 (k + 1) c = nI (aX a i c) ∧ σ1.1 (k + 2) c = nI (aY a i c)) → g_X3_keepPlaces (d + 1) 12 [(0, aN k), (1, aI (nI S)), (2, aI (nI (aNc a i))), (3, aI (nI m))] σ1 Q) (aNc a i) ?_ ?_
  · refine L _ (Fr.up σ _ (by omega)) rfl rd_s (fun c hc => by omega) (fun c _ hc => ?_)
    rw [rd_o (by omega), rd_o (by omega)]; exact hC.2.2 c hc
  · intro σ1 f1 g1 c1 p1 _
    exact b_X3_keepPlaces_12 d k hk _ _ _ σ1 Q ⟨fun _ => h σ1 f1 g1 c1 p1, fun c => absurd ((le_nI (by omega) (by omega)).mpr (Nat.le_refl _)) c⟩
  · intro m hm ih σ1 f1 g1 c1 p1 p2
    refine b_X3_keepPlaces_12 d k hk _ _ _ σ1 Q ⟨fun c => absurd ((le_nI (by omega) (by omega)).mp c) (by omega), fun _ => ?_⟩
    have hcm := cnt_n (fun c => S.testBit c) m
    refine s_X7_has d _ (by omega) σ1 _ ?_
    rw [bt_nI _ (by omega), nI_1]
    refine ⟨fun c => ?_, fun c => ⟨vp_in_nI (by omega) (by omega), vp_in_nI (by omega) (by omega), ?_⟩⟩
    · have c := b2i_0.mp c
      refine ih σ1 f1 g1 ?_ (fun c' h1 h2 => ?_) (fun c' h1 h2 => p2 c' (by omega) h2)
      · show _ = nI (cnt (fun c => S.testBit c) m + (if S.testBit m then 1 else 0))
        rw [c]; exact c1
      · refine p1 c' ?_ h2
        by_cases e : c' = m
        · subst e; rw [c] at h2; cases h2
        · omega
    · have c := b2i_n.mp c
      rw [nI_clamp (by omega), (p2 m (by omega) hm).1, (p2 m (by omega) hm).2]
      refine s_X3_addPlace d k hk _ _ (cnt (fun c => S.testBit c) m) (by omega) σ1 c1 _ ?_
      generalize e2 : tk_up (tk_up (tk_up σ1 (k + 1) (cnt (fun c => S.testBit c) m) (nI (aX a i m))) (k + 2) (cnt (fun c => S.testBit c) m) (nI (aY a i m))) k 2 (nI (cnt (fun c => S.testBit c) m + 1)) = σ2
      refine ih σ2 (f1.tr (by rw [← e2]; exact ((Fr.up _ _ (by omega)).tr (Fr.up _ _ (by omega))).tr (Fr.up _ _ (by omega)))) (by rw [← e2]; exact g1) ?_ (fun c' h1 h2 => ?_) (fun c' h1 h2 => ?_)
      · show _ = nI (cnt (fun c => S.testBit c) m + (if S.testBit m then 1 else 0))
        rw [c, ← e2, rd_s]; rfl
      · by_cases e : c' = m
        · subst e
          rw [← e2, rd_o (by omega), rd_o (by omega), rd_s, rd_o (by omega), rd_s]
          exact ⟨rfl, rfl⟩
        · have := cnt_lt (p := fun c => S.testBit c) (m := c') (n := m) (by omega) h2
          rw [← e2, rd_o (by omega), rd_o (by omega), rd_o (by omega), rd_o (by omega), rd_o (by omega), rd_o (by omega)]
          exact p1 c' (by omega) h2
      · rw [← e2, rd_o (by omega), rd_o (by omega), rd_o (by omega), rd_o (by omega), rd_o (by omega), rd_o (by omega)]
        exact p2 c' (by omega) h2
set_option maxHeartbeats 1000000 in
theorem s_X8_sub (d S : Nat) (a : Ab) (i : Nat) (hi : i < 12) (hW : WFs a i) (hW' : WFs (subS a i (fun c => S.testBit c)) i) (σ : tk_S) (hC : mco a σ i) (Q : Int32 → tk_S → Prop) (h : ∀ σ', (∀ k j, ¬ ((k = 137 ∧ j = i) ∨ ((k = 138 ∨ k = 139) ∧ 8 * i ≤ j ∧ j < 8 * i + 8) ∨ frP i k j) → σ'.1 k j = σ.1 k j) → σ'.2 = σ.2 → mco (subS a i (fun c => S.testBit c)) σ' i → mpin σ' i (pinP (subS a i (fun c => S.testBit c)) i) → Q (nI (cnt (fun c => S.testBit c) (aNc a i))) σ') : g_X8_simplify (d + 5) 24 [(0, aN 132), (1, aI (nI i)), (3, aI (nI S)), (4, aI 0), (5, aI 0)] σ Q := by
  have w5 := hW.2.2.2.2.1
  have L := up_loop (fun m => ∀ σ1, (∀ k j, ¬ ((k = 138 ∨ k = 139) ∧ 8 * i ≤ j ∧ j < 8 * i + 8) → σ1.1 k j = σ.1 k j) → σ1.2 = σ.2 → (∀ c, c < m → S.testBit c = true → σ1.1 138 (8 * i + cnt (fun c => S.testBit c) c) = nI (aX a i c) ∧ σ1.1 139 (8 * i + cnt (fun c => S.testBit c) c) = nI (aY a i c)) → (∀ c, m ≤ c → c < aNc a i → σ1.1 138 (8 * i + c) = nI (aX a i c) ∧ σ1.1 139 (8 * i + c) = nI (aY a i c)) → g_X8_simplify (d + 5) 24 [(0, aN 132), (1, aI (nI i)), (3, aI (nI S)), (4, aI (nI (cnt (fun c => S.testBit c) m))), (5, aI (nI m))] σ1 Q) (aNc a i) ?_ ?_
  · exact L σ (fun _ _ _ => rfl) rfl (fun c hc => by omega) (fun c _ hc => hC.2.2 c hc)
  · intro σ1 f1 g1 p1 _
    refine b_X8_simplify_24 (d + 4) _ _ _ _ σ1 Q ⟨vp_in_nI hi (by omega), ?_⟩
    rw [nI_clamp (by omega), f1 137 i (by omega), hC.2.1]
    refine ⟨fun _ => ⟨vp_in_nI hi (by omega), ?_⟩, fun c => absurd ((le_nI (by omega) (by omega)).mpr (Nat.le_refl _)) c⟩
    generalize e2 : tk_up σ1 137 i (nI (cnt (fun c => S.testBit c) (aNc a i))) = σ2
    have hC2 : mco (subS a i (fun c => S.testBit c)) σ2 i := by
      refine ⟨by rw [subS_ki, ← e2, rd_o (by omega), f1 _ _ (by omega)]; exact hC.1, by rw [subS_nc, ← e2, rd_s], fun k hk => ?_⟩
      rw [subS_nc] at hk
      obtain ⟨c, q1, q2, q3⟩ := pick_ex _ _ _ hk
      rw [subS_x, subS_y, ← q3, pick_s _ q2 _ q1, ← e2, rd_o (by omega), rd_o (by omega)]
      exact p1 c q1 q2
    refine s_X8_draws d i hi _ hW' σ2 hC2 _ (fun σ3 f3 g3 m3 => h σ3 (fun k j hk => ?_) (by rw [g3, ← e2]; exact g1) (hC2.fr f3) m3)
    rw [f3 k j (fun q => hk (Or.inr (Or.inr q))), ← e2, rd_o (fun q => hk (Or.inl q)), f1 k j (fun q => hk (Or.inr (Or.inl q)))]
  · intro m hm ih σ1 f1 g1 p1 p2
    have hcm := cnt_n (fun c => S.testBit c) m
    refine b_X8_simplify_24 (d + 4) _ _ _ _ σ1 Q ⟨vp_in_nI hi (by omega), ?_⟩
    rw [nI_clamp (by omega), f1 137 i (by omega), hC.2.1, bt_shr1 _ (by omega), bt_nI _ (by omega), b1n, nI_1, nI_1, ix8, ix8, nI_clamp (by omega), nI_clamp (by omega)]
    refine ⟨fun c => absurd ((le_nI (by omega) (by omega)).mp c) (by omega), fun _ => ⟨fun c => ⟨vp_in_nI (by omega) (by omega), vp_in_nI (by omega) (by omega), vp_in_nI (by omega) (by omega), vp_in_nI (by omega) (by omega), fun σ2 e2 => ?_⟩, fun c => ?_⟩⟩
    · have c : S.testBit m = true := by cases z : S.testBit m; exact absurd z c; rfl
      have ec : cnt (fun c => S.testBit c) (m + 1) = cnt (fun c => S.testBit c) m + 1 := by
        show cnt (fun c => S.testBit c) m + (if S.testBit m then 1 else 0) = _
        rw [c]; rfl
      rw [rd_o (by omega), (p2 m (by omega) hm).1, (p2 m (by omega) hm).2] at e2
      rw [← ec]
      refine ih σ2 (fun k j hk => ?_) (by rw [e2]; exact g1) (fun c' h1 h2 => ?_) (fun c' h1 h2 => ?_)
      · rw [e2, rd_o (by omega), rd_o (by omega)]; exact f1 k j hk
      · by_cases e : c' = m
        · subst e
          rw [e2, rd_o (by omega), rd_s, rd_s]
          exact ⟨rfl, rfl⟩
        · have := cnt_lt (p := fun c => S.testBit c) (m := c') (n := m) (by omega) h2
          rw [e2, rd_o (by omega), rd_o (by omega), rd_o (by omega), rd_o (by omega)]
          exact p1 c' (by omega) h2
      · rw [e2, rd_o (by omega), rd_o (by omega), rd_o (by omega), rd_o (by omega)]
        exact p2 c' (by omega) h2
    · have ec : cnt (fun c => S.testBit c) (m + 1) = cnt (fun c => S.testBit c) m := by
        show cnt (fun c => S.testBit c) m + (if S.testBit m then 1 else 0) = _
        rw [c]; rfl
      have e0 := ih σ1 f1 g1 (fun c' h1 h2 => by
        refine p1 c' ?_ h2
        by_cases e : c' = m
        · subst e; rw [c] at h2; cases h2
        · omega) (fun c' h1 h2 => p2 c' (by omega) h2)
      rw [ec] at e0
      exact e0
set_option maxHeartbeats 2000000 in
theorem step_simplify (d : Nat) (x y : Int32) (σ : tk_S) (hR : Rel σ) : p_X7_simplify (d + 5) [aN 0, aI x, aI y] σ (fun r σ1 => p_X8_simplify (d + 5) [aN 132, aI x, aI y] σ1 (fun r' σ2 => r = r' ∧ Rel σ2)) := by
  obtain ⟨a, hw, hX, hK, hF, hM⟩ := id hR
  have hn := hw.1
  refine e_X7_simplify (d + 5) _ _ (b_X7_simplify_0 (d + 4) _ _ σ _ ?_)
  refine s_X7_canSimplify (d + 3) a hw x y σ hX _ (fun i b h1 h2 h3 h4 h5 => ⟨fun _ => ?_, fun c => absurd c (by decide)⟩) (fun q => ⟨fun c => absurd rfl c, fun _ => ?_⟩)
  · subst h4; subst h5
    have hWs := hw.2.2.2.2.2.1 i h1
    have w5 := hWs.2.2.2.2.1
    have hsh : tk_sh (72 + 5 * i) = tk_shape := by rw [show 72 + 5 * i = 1 + 71 + 5 * i by omega]; exact tk_shp (by omega)
    refine ⟨vp_in_nI (by omega) (by omega), ?_⟩
    rw [nI_clamp (by omega), show 1 + 71 + 5 * i = 72 + 5 * i by omega]
    refine s_X4_fewest (d + 2) _ hsh (by omega) a i hWs σ (xco_of (hX.2.2.2.2.1 i h1)) b h3 _ (fun σ1 S f1 g1 hS s1 => ?_)
    have hX1 : XI a σ1 := hX.fr hw (f1.wk (fun k j q => by unfold frS; omega))
    have hF1 : XF (a 11) σ1 := hF.fr (fun k j hk => f1 k j (by omega))
    have hM1 : MI a σ1 := hM.fr (f1.wk (fun k j q => by show k < 132; omega))
    generalize ea : subS a i (fun c => S.testBit c) = a'
    have hw' : WF a' := by rw [← ea]; exact subS_WF a i _ hw h1 h2 s1.1.2.1
    obtain ⟨en, e1, e2, e3, e4, e5, e6', e7, e8, e9⟩ := subS_all a i (fun c => S.testBit c)
    rw [ea] at en e1 e2 e3 e4 e5 e6' e7 e8 e9
    refine s_X3_keepPlaces (d + 3) _ hsh a i hWs σ1 (xco_of (hX1.2.2.2.2.1 i h1)) S _ (fun σ2 f2 g2 c2 p2 => ?_)
    have hC2 : xco a' σ2 (72 + 5 * i) i := by
      refine ⟨by rw [← ea, subS_ki, f2 _ _ (by omega)]; exact (hX1.2.2.2.2.1 i h1).1, by rw [← ea, subS_nc]; exact c2, fun k hk => ?_⟩
      rw [← ea, subS_nc] at hk
      obtain ⟨c, q1, q2, q3⟩ := pick_ex _ _ _ hk
      rw [← ea, subS_x, subS_y, ← q3, pick_s _ q2 _ q1]
      exact p2 c q1 q2
    refine s_X3_draw d _ hsh a' i (hw'.2.2.2.2.2.1 i (by omega)) σ2 hC2 _ (fun σ3 f3 g3 m3 => ?_)
    have rd3 : ∀ k j, ¬ ((k = 72 + 5 * i ∧ j = 2) ∨ k = 72 + 5 * i + 1 ∨ k = 72 + 5 * i + 2 ∨ k = 72 + 5 * i + 4) → σ3.1 k j = σ1.1 k j := fun k j hk => by rw [f3 k j (by unfold frK; omega), f2 k j (by omega)]
    have row3 : ∀ j, j < aN0 a → xrow σ3 (72 + 5 * j + 4) (pinP a' j) := by
      intro j hj x y hy
      by_cases e : j = i
      · subst e; exact m3 x y hy
      · rw [rd3 _ _ (by omega), (hX1.2.2.2.2.1 j hj).2.2.2.2 x y hy]
        refine pB_c ?_
        have := subS_pin a i (fun c => S.testBit c) e x y
        rw [ea] at this
        rw [this]
        exact ⟨fun q => ⟨q.1, q⟩, fun q => q.2⟩
    refine s_X7_measure (d + 2) i (aN0 a) h1 hn a' (fun j hj => hw'.2.2.2.2.2.1 j (by omega)) σ3 (by rw [rd3 _ _ (by omega)]; exact hX1.1) row3 _ (fun σ5 f5 g5 d5 => s_X7_forget (d + 4) σ5 _ ?_)
    generalize e6 : tk_up (tk_up (tk_up σ5 0 14 0) 0 15 0) 0 16 0 = σ6
    have e6 : fgt σ5 = σ6 := e6
    have rd6 : ∀ k j, ¬ (k = 0 ∧ 14 ≤ j) → σ6.1 k j = σ5.1 k j := fun k j hk => by rw [← e6, fgt_o _ hk]
    have rd : ∀ k j, ¬ ((k = 0 ∧ 14 ≤ j) ∨ (k = 72 + 5 * i ∧ j = 2) ∨ k = 72 + 5 * i + 1 ∨ k = 72 + 5 * i + 2 ∨ k = 72 + 5 * i + 4 ∨ frMs i k j) → σ6.1 k j = σ1.1 k j := fun k j hk => by
      rw [rd6 k j (fun q => hk (Or.inl q)), f5 k j (fun q => hk (Or.inr (Or.inr (Or.inr (Or.inr (Or.inr q)))))), rd3 k j (fun q => hk (Or.inr (by rcases q with q | q | q | q <;> simp [q])))]
    have eo : ∀ {c i' j}, i' ≠ i → a' c i' j = a c i' j := fun h => by rw [← ea]; exact subS_o a i _ h
    have hX6 : XI a' σ6 := by
      obtain ⟨j0, j1, j2, j3, j4, j6, j7, j8, j9, j10⟩ := hX1
      refine ⟨?_, ?_, ?_, fun k hk => ?_, fun i' hi' => ?_, fun i' j hi' => ?_, fun s t hs => ?_, fun t ht => ?_, fun i' j hi' hj => ?_, fun x y hy => ?_⟩
      · rw [rd _ _ (by unfold frMs; omega), en]; exact j0
      · rw [rd _ _ (by unfold frMs; omega), e1]; exact j1
      · rw [rd _ _ (by unfold frMs; omega), e2]; exact j2
      · rw [e1] at hk; rw [rd _ _ (by unfold frMs; omega), rd _ _ (by unfold frMs; omega), e3, e4]; exact j3 k hk
      · rw [en] at hi'
        by_cases e : i' = i
        · subst e
          have hc6 : ∀ k j, k = 72 + 5 * i' ∨ k = 72 + 5 * i' + 1 ∨ k = 72 + 5 * i' + 2 → σ6.1 k j = σ2.1 k j := fun k j hk => by rw [rd6 _ _ (by omega), f5 _ _ (by unfold frMs; omega), f3 _ _ (by unfold frK; omega)]
          refine ⟨by rw [hc6 _ _ (by omega)]; exact hC2.1, by rw [rd _ _ (by unfold frMs; omega), e9]; exact (j4 i' hi').2.1, by rw [hc6 _ _ (by omega)]; exact hC2.2.1, fun k hk => ?_, fun x y hy => ?_⟩
          · rw [hc6 _ _ (by omega), hc6 _ _ (by omega)]; exact hC2.2.2 k hk
          · rw [rd6 _ _ (by omega), f5 _ _ (by unfold frMs; omega), row3 i' hi' x y hy]
            exact pB_c ⟨fun q => q.2, fun q => ⟨q.1, q⟩⟩
        · exact XIs_c (eo e) (eo e) (eo e) (fun _ => eo e) (fun _ => eo e) (XIs.keep (j4 i' hi') (fun k j h1 h2 => rd k j (by unfold frMs; omega)))
      · rw [rd _ _ (by unfold frMs; omega), j6 i' j hi']
        rw [en, e5]
      · rw [rd _ _ (by unfold frMs; omega), j7 s t hs, e6']
      · rw [rd _ _ (by unfold frMs; omega), e7]; exact j8 t ht
      · rw [en] at hi' hj
        rw [rd6 _ _ (by omega)]
        by_cases ei : i' = i
        · subst ei
          obtain ⟨f, z1, z2, z3⟩ := d5 j hj
          exact ⟨f, z1, z3⟩
        · by_cases ej : j = i
          · subst ej
            obtain ⟨f, z1, z2, z3⟩ := d5 i' hi'
            exact ⟨f, z2, far_sym z3⟩
          · rw [← rd6 _ _ (by omega), rd _ _ (by unfold frMs; omega)]
            obtain ⟨f, z1, z2⟩ := j9 i' j hi' hj
            refine ⟨f, z1, (isFar_c (fun x y => ?_) (fun x y => ?_) f).mpr z2⟩
            · rw [← ea]; exact subS_pin a i _ ei x y
            · rw [← ea]; exact subS_pin a i _ ej x y
      · rw [rd _ _ (by unfold frMs; omega), j10 x y hy, e8]
    have hF6 : XF (a' 11) σ6 := by
      rw [show a' 11 = a 11 by rw [← ea]; exact subS_11 a i _]
      exact hF1.fr (fun k j hk => rd k j (by unfold frMs; omega))
    have hz6 : σ6.1 0 14 = 0 ∧ σ6.1 0 15 = 0 ∧ σ6.1 0 16 = 0 := by rw [← e6]; exact fgt_z σ5
    have hM6 : MI a σ6 := hM1.fr (fun k j hk => rd k j (by have hk : ¬ k < 132 := hk; unfold frMs; omega))
    have cr : σ6.1 (72 + 5 * i) 2 = nI (cnt (fun c => S.testBit c) (aNc a i)) := by
      rw [rd6 _ _ (by omega), f5 _ _ (by unfold frMs; omega), f3 _ _ (by unfold frK; omega)]; exact c2
    rw [cr]
    refine e_X8_simplify (d + 5) _ _ (b_X8_simplify_0 (d + 4) _ _ σ6 _ ?_)
    refine s_X8_isLine (d + 2) a hw _ _ σ6 hM6 _ (fun _ _ _ _ _ _ _ => ⟨fun _ => ?_, fun c => absurd c (by decide)⟩) (fun q => absurd ⟨i, b, h1, h2, h3, rfl, rfl⟩ q)
    refine s_X8_simpler (d + 1) a i (by omega) hWs σ6 (mco_of (hM6.2.2.2.2.1 i h1)) b h3 _ (fun S2 hS2 s2 => ?_)
    rw [sim_eq s2 s1]
    refine s_X8_sub d S a i (by omega) hWs (by rw [ea]; exact hw'.2.2.2.2.2.1 i (by omega)) σ6 (mco_of (hM6.2.2.2.2.1 i h1)) _ (fun σ7 f7 g7 m7 p7 => ⟨rfl, a', hw', ?_, ?_, ?_, ?_⟩)
    · exact hX6.fr hw' (fun k j hk => f7 k j (fun q => hk (by unfold frP at q; unfold frS; omega)))
    · exact XK.no (by rw [f7 _ _ (by unfold frP; omega)]; exact hz6.1) (by rw [f7 _ _ (by unfold frP; omega)]; exact hz6.2.1) (by rw [f7 _ _ (by unfold frP; omega)]; exact hz6.2.2)
    · exact hF6.fr (fun k j hk => f7 k j (by unfold frP; omega))
    · rw [ea] at m7 p7
      obtain ⟨j0, j1, j2, j3, j4, j5, j6, j7, j8⟩ := hM6
      refine ⟨?_, ?_, ?_, fun k hk => ?_, fun i' hi' => ?_, fun i' j hi' hj => ?_, fun s t hs ht => ?_, fun t ht => ?_, fun x y hx hy => ?_⟩
      · rw [f7 _ _ (by unfold frP; omega), en]; exact j0
      · rw [f7 _ _ (by unfold frP; omega), e1]; exact j1
      · rw [f7 _ _ (by unfold frP; omega), e2]; exact j2
      · rw [e1] at hk; rw [f7 _ _ (by unfold frP; omega), f7 _ _ (by unfold frP; omega), e3, e4]; exact j3 k hk
      · rw [en] at hi'
        by_cases e : i' = i
        · subst e
          exact ⟨m7.1, by rw [f7 _ _ (by unfold frP; omega), e9]; exact (j4 i' hi').2.1, m7.2.1, m7.2.2, p7⟩
        · refine MIs_c (eo e) (eo e) (eo e) (fun _ => eo e) (fun _ => eo e) ?_
          obtain ⟨g0, g1, g2, g3, g4⟩ := j4 i' hi'
          have w5' := (hw.2.2.2.2.2.1 i' hi').2.2.2.2.1
          refine ⟨by rw [f7 _ _ (by unfold frP; omega)]; exact g0, by rw [f7 _ _ (by unfold frP; omega)]; exact g1, by rw [f7 _ _ (by unfold frP; omega)]; exact g2, fun k hk => ?_, fun x y hx hy => ?_⟩
          · rw [f7 _ _ (by unfold frP; omega), f7 _ _ (by unfold frP; omega)]; exact g3 k hk
          · rw [f7 _ _ (by unfold frP; omega)]; exact g4 x y hx hy
      · rw [en] at hi' hj; rw [f7 _ _ (by unfold frP; omega), e5]; exact j5 i' j hi' hj
      · rw [f7 _ _ (by unfold frP; omega), e6']; exact j6 s t hs ht
      · rw [f7 _ _ (by unfold frP; omega), e7]; exact j7 t ht
      · rw [f7 _ _ (by unfold frP; omega), e8]; exact j8 x y hx hy
  · refine e_X8_simplify (d + 5) _ _ (b_X8_simplify_0 (d + 4) _ _ σ _ ?_)
    exact s_X8_isLine (d + 2) a hw _ _ σ hM _ (fun i b h1 h2 h3 h4 h5 => absurd ⟨i, b, h1, h2, h3, h4, h5⟩ q) (fun _ => ⟨fun c => absurd rfl c, fun _ => ⟨rfl, hR⟩⟩)
