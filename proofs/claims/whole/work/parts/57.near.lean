/-! NEAR, by both sides -/
theorem far_lt {a : Ab} {i j f g : Nat} (h : isFar a i j f) : f ≤ g ↔ reach a i j g := by
  constructor
  · intro q
    exact reach_mono h.2.1 q
  · intro q
    rcases Nat.lt_or_ge g f with z | z
    · exact absurd q (h.2.2 g z)
    · exact z
/-- the sets of those that are near, in cell K -/
def nearC (a : Ab) (σ : tk_S) (K n : Nat) : Prop := ∀ i, i < n → ∀ j, bt (σ.1 K i) j = pB (j < aN0 a ∧ nearP a i j)
set_option maxHeartbeats 2000000 in
theorem s_X8_nears (d : Nat) (a : Ab) (hw : WF a) (σ : tk_S) (hM : MI a σ) (Q : tk_S → Prop) (h : ∀ σ', Fr (fun k _ => k = 144) σ σ' → σ'.2 = σ.2 → nearC a σ' 144 (aN0 a) → Q σ') : p_X8_nears (d + 2) [aN 132] σ Q := by
  have hn12 := hw.1
  have cnt_ : ∀ σ1, Fr (fun k _ => k = 144) σ σ1 → σ1.1 132 0 = nI (aN0 a) := fun σ1 f1 => by rw [f1 132 0 (by omega)]; exact hM.1
  have pin_ : ∀ σ1, Fr (fun k _ => k = 144) σ σ1 → ∀ i, i < aN0 a → mpin σ1 i (pinP a i) := fun σ1 f1 i hi x y hx hy => by rw [f1 140 _ (by omega)]; exact (hM.2.2.2.2.1 i hi).2.2.2.2 x y hx hy
  refine e_X8_nears (d + 2) (b_X8_nears_0 (d + 1) σ Q ?_)
  have O := up_loop (fun i => ∀ σ1, Fr (fun k _ => k = 144) σ σ1 → σ1.2 = σ.2 → nearC a σ1 144 i → g_X8_nears (d + 2) 2 [(0, aN 132), (1, aI (nI i))] σ1 Q) (aN0 a) ?_ ?_
  · exact O σ (Fr.rf σ) rfl (fun i hi => absurd hi (Nat.not_lt_zero i))
  · intro σ1 f1 g1 n1
    refine b_X8_nears_2 (d + 1) _ σ1 Q ?_
    rw [cnt_ σ1 f1]
    exact ⟨fun _ => h σ1 f1 g1 n1, fun c => absurd ((le_nI (by omega) (by omega)).mpr (Nat.le_refl _)) c⟩
  · intro i hi ih σ1 f1 g1 n1
    refine b_X8_nears_2 (d + 1) _ σ1 Q ?_
    rw [cnt_ σ1 f1, nI_clamp (by omega)]
    refine ⟨fun c => absurd ((le_nI (by omega) (by omega)).mp c) (by omega), fun _ => ⟨vp_in_nI (by omega) (by omega), ?_⟩⟩
    have I := up_loop (fun jj => ∀ σ2, Fr (fun k _ => k = 144) σ σ2 → σ2.2 = σ.2 → nearC a σ2 144 i → (∀ j, bt (σ2.1 144 i) j = pB (j < jj ∧ nearP a i j)) → g_X8_nears (d + 2) 19 [(0, aN 132), (1, aI (nI i)), (2, aI (nI jj))] σ2 Q) (aN0 a) ?_ ?_
    · refine I _ (f1.tr (Fr.up σ1 _ rfl)) g1 (fun i' hi' j => ?_) (fun j => ?_)
      · rw [tk_up_at, if_neg (by omega)]; exact n1 i' hi' j
      · rw [tk_up_at, if_pos ⟨rfl, rfl⟩, b_0]; exact (pB_f.mpr (fun q => absurd q.1 (Nat.not_lt_zero j))).symm
    · intro σ2 f2 g2 n2 m2
      refine b_X8_nears_19 (d + 1) _ _ σ2 Q ?_
      rw [cnt_ σ2 f2, nI_1]
      refine ⟨fun _ => ih σ2 f2 g2 (fun i' hi' j => ?_), fun c => absurd ((le_nI (by omega) (by omega)).mpr (Nat.le_refl _)) c⟩
      by_cases e : i' = i
      · subst e; exact m2 j
      · exact n2 i' (by omega) j
    · intro jj hjj ih2 σ2 f2 g2 n2 m2
      have nx : ∀ v : Int32, (∀ j, bt v j = pB (j < jj + 1 ∧ nearP a i j)) → g_X8_nears (d + 2) 19 [(0, aN 132), (1, aI (nI i)), (2, aI (nI (jj + 1)))] (tk_up σ2 144 i v) Q := by
        intro v hv
        refine ih2 _ (f2.tr (Fr.up σ2 _ rfl)) g2 (fun i' hi' j => ?_) (fun j => ?_)
        · rw [tk_up_at, if_neg (by omega)]; exact n2 i' hi' j
        · rw [tk_up_at, if_pos ⟨rfl, rfl⟩]; exact hv j
      have nox : ¬ nearP a i jj → ∀ j, bt (σ2.1 144 i ||| 0) j = pB (j < jj + 1 ∧ nearP a i j) := by
        intro hnn j
        rw [b_or, b_0, Bool.or_false, m2 j]
        refine pB_c ⟨fun q => ⟨by omega, q.2⟩, fun q => ⟨?_, q.2⟩⟩
        by_cases e : j = jj
        · subst e; exact absurd q.2 hnn
        · omega
      refine b_X8_nears_19 (d + 1) _ _ σ2 Q ?_
      rw [cnt_ σ2 f2, nI_1 i, nI_1 jj, ix12, nI_clamp (n := i) (by omega), nI_clamp (n := 12 * i + jj) (by omega), f2 141 (12 * i + jj) (by omega), hM.2.2.2.2.2.1 i jj hi hjj]
      have hme := (hw.2.2.2.2.2.2.1 i jj hi hjj).1
      refine ⟨fun c => absurd ((le_nI (by omega) (by omega)).mp c) (by omega), fun _ => ⟨vp_in_nI (by omega) (by omega), fun c => ⟨vp_in_nI (by omega) (by omega), nx _ (nox (fun q => q.1 ((nI_eq (by omega) (by omega)).mp c)))⟩, fun cij => ⟨vp_in_nI (by omega) (by omega), fun cm => ⟨vp_in_nI (by omega) (by omega), nx _ (nox (fun q => cm (by rw [q.2.1]; rfl)))⟩, fun cm => ?_⟩⟩⟩
      have hm0 : aMe a i jj = 0 := (nI_eq (b := 0) (by omega) (by omega)).mp cm
      have hij : i ≠ jj := fun q => cij (by rw [q])
      refine s_X8_farOf d i jj (by omega) (by omega) σ2 _ _ (pin_ σ2 f2 i hi) (pin_ σ2 f2 jj hjj) _ (fun L hL => ?_)
      have hfar := far_of_lb (hw.2.2.2.2.2.1 i hi) (hw.2.2.2.2.2.1 jj hjj) hL
      have hL24 := hfar.1
      have hg1 := hw.2.2.1
      have hg6 := hw.2.2.2.1
      rw [f2 132 2 (by omega), hM.2.2.1]
      refine ⟨fun c => ⟨vp_in_nI (by omega) (by omega), nx _ (nox (fun q => ?_))⟩, fun c => ⟨vp_in_nI (by omega) (by omega), nx _ (fun j => ?_)⟩⟩
      · have h1 := (le_nI (by omega) (by omega)).mp c
        have h2 := (far_lt hfar).mpr q.2.2
        omega
      · have h1 : ¬ aGap a ≤ L := fun z => c ((le_nI (by omega) (by omega)).mpr z)
        have hnp : nearP a i jj := ⟨hij, hm0, (far_lt hfar).mp (by omega)⟩
        rw [b_or, bt_1 (by omega), m2 j]
        by_cases e : j = jj
        · subst e
          rw [decide_eq_true rfl, Bool.or_true]
          exact (pB_t.mpr ⟨by omega, hnp⟩).symm
        · rw [decide_eq_false e, Bool.or_false]
          exact pB_c ⟨fun q => ⟨by omega, q.2⟩, fun q => ⟨by omega, q.2⟩⟩
/-- those within a distance -/
theorem s_X7_within (d : Nat) (a : Ab) (hw : WF a) (i most : Nat) (hi : i < aN0 a) (hm : most < 100) (σ : tk_S) (h0 : σ.1 0 1 = nI (aN0 a)) (hd : ∀ i j, i < aN0 a → j < aN0 a → ∃ f, σ.1 (6 + i) j = nI f ∧ isFar a i j f) (Q : Int32 → tk_S → Prop) (h : ∀ U : Int32, (∀ j, bt U j = pB (j < aN0 a ∧ j ≠ i ∧ reach a i j most)) → Q U σ) : p_X7_within d [aN 0, aI (nI i), aI (nI most)] σ Q := by
  have hn12 := hw.1
  refine e_X7_within d _ _ (b_X7_within_0 d _ _ σ Q ?_)
  have L := up_loop (fun jj => ∀ U : Int32, (∀ j, bt U j = pB (j < jj ∧ j ≠ i ∧ reach a i j most)) → g_X7_within d 5 [(0, aN 0), (1, aI (nI i)), (2, aI (nI most)), (3, aI U), (4, aI (nI jj))] σ Q) (aN0 a) ?_ ?_
  · exact L 0 (fun j => by rw [b_0]; exact (pB_f.mpr (fun q => absurd q.1 (Nat.not_lt_zero j))).symm)
  · intro U hU
    refine b_X7_within_5 d _ _ _ _ σ Q ?_
    rw [h0]
    exact ⟨fun _ => h U hU, fun c => absurd ((le_nI (by omega) (by omega)).mpr (Nat.le_refl _)) c⟩
  · intro jj hjj ih U hU
    obtain ⟨f, e1, e2⟩ := hd i jj hi hjj
    have hf := e2.1
    refine b_X7_within_5 d _ _ _ _ σ Q ?_
    rw [h0, nI_1, nI_clamp (n := i) (by omega), nI_clamp (n := jj) (by omega), show 5 + 1 + 1 * i = 6 + i by omega, e1]
    have skip : ¬ (jj ≠ i ∧ reach a i jj most) → g_X7_within d 5 [(0, aN 0), (1, aI (nI i)), (2, aI (nI most)), (3, aI U), (4, aI (nI (jj + 1)))] σ Q := by
      intro hn
      refine ih U (fun j => ?_)
      rw [hU j]
      refine pB_c ⟨fun q => ⟨by omega, q.2⟩, fun q => ⟨?_, q.2⟩⟩
      by_cases e : j = jj
      · subst e; exact absurd q.2 hn
      · omega
    refine ⟨fun c => absurd ((le_nI (by omega) (by omega)).mp c) (by omega), fun _ => ⟨fun c => skip (fun q => q.1 ((nI_eq (by omega) (by omega)).mp c)), fun cij => ⟨vp_in_nI (by omega) (by omega), vp_in_nI (by omega) (by omega), fun c => skip (fun q => ?_), fun c z6 e6 => ih z6 (fun j => ?_)⟩⟩⟩
    · have h1 := (lt_nI (by omega) (by omega)).mp c
      have h2 := (far_lt e2).mpr q.2
      omega
    · have h1 : ¬ most < f := fun z => c ((lt_nI (by omega) (by omega)).mpr z)
      have hne : jj ≠ i := fun q => cij (by rw [q])
      rw [e6, b_or, bt_1 (by omega), hU j]
      by_cases e : j = jj
      · subst e
        rw [decide_eq_true rfl, Bool.or_true]
        exact (pB_t.mpr ⟨by omega, hne, (far_lt e2).mp (by omega)⟩).symm
      · rw [decide_eq_false e, Bool.or_false]
        exact pB_c ⟨fun q => ⟨by omega, q.2⟩, fun q => ⟨by omega, q.2⟩⟩
set_option maxHeartbeats 1000000 in
theorem s_X7_near (d : Nat) (a : Ab) (hw : WF a) (σ : tk_S) (hX : XI a σ) (Q : tk_S → Prop) (h : ∀ σ', Fr (fun k _ => k = 51) σ σ' → σ'.2 = σ.2 → nearC a σ' 51 (aN0 a) → Q σ') : p_X7_lookWhatIsNear (d + 1) [aN 0] σ Q := by
  have hn12 := hw.1
  have hg1 := hw.2.2.1
  have hg6 := hw.2.2.2.1
  refine e_X7_lookWhatIsNear (d + 1) (b_X7_lookWhatIsNear_0 d σ Q ?_)
  have O := up_loop (fun i => ∀ σ1, Fr (fun k _ => k = 51) σ σ1 → σ1.2 = σ.2 → nearC a σ1 51 i → g_X7_lookWhatIsNear (d + 1) 2 [(0, aN 0), (1, aI (nI i))] σ1 Q) (aN0 a) ?_ ?_
  · exact O σ (Fr.rf σ) rfl (fun i hi => absurd hi (Nat.not_lt_zero i))
  · intro σ1 f1 g1 n1
    refine b_X7_lookWhatIsNear_2 d _ σ1 Q ?_
    rw [f1 0 1 (by omega), hX.1]
    exact ⟨fun _ => h σ1 f1 g1 n1, fun c => absurd ((le_nI (by omega) (by omega)).mpr (Nat.le_refl _)) c⟩
  · intro i hi ih σ1 f1 g1 n1
    refine b_X7_lookWhatIsNear_2 d _ σ1 Q ?_
    rw [f1 0 1 (by omega), hX.1, f1 0 5 (by omega), hX.2.2.1, nI_clamp (by omega), nI_1, show nI (aGap a) - 1 = nI (aGap a - 1) from pk_sub (b := 1) hg1]
    refine ⟨fun c => absurd ((le_nI (by omega) (by omega)).mp c) (by omega), fun _ => ?_⟩
    refine s_X7_within d a hw i (aGap a - 1) hi (by omega) σ1 (by rw [f1 0 1 (by omega)]; exact hX.1) (fun i j hi hj => by rw [f1 _ _ (by omega)]; exact hX.2.2.2.2.2.2.2.2.1 i j hi hj) _ (fun U hU => ⟨vp_in_nI (by omega) (by omega), vp_in_nI (by omega) (by omega), ih _ (f1.tr (Fr.up σ1 _ rfl)) g1 (fun i' hi' j => ?_)⟩)
    rw [tk_up_at]
    by_cases e : i' = i
    · subst e
      rw [if_pos ⟨rfl, rfl⟩, f1 4 i' (by omega)]
      by_cases hj : j < 32
      · rw [b_and, bt_not _ hj, hU j, hX.2.2.2.2.2.1 i' j (by omega)]
        by_cases hn : j < aN0 a
        · have hme := (hw.2.2.2.2.2.2.1 i' j hi hn).1
          by_cases hm : aMe a i' j = 1
          · rw [decide_eq_true ⟨hi, hn, hm⟩, Bool.not_true, Bool.and_false]
            exact (pB_f.mpr (fun q => by have := q.2.2.1; omega)).symm
          · rw [decide_eq_false (fun q => hm q.2.2), Bool.not_false, Bool.and_true]
            exact pB_c ⟨fun q => ⟨q.1, fun z => q.2.1 z.symm, by omega, q.2.2⟩, fun q => ⟨q.1, fun z => q.2.1 z.symm, q.2.2.2⟩⟩
        · rw [pB_f.mpr (fun q => hn q.1), Bool.false_and]
          exact (pB_f.mpr (fun q => hn q.1)).symm
      · rw [b_big (by omega)]
        exact (pB_f.mpr (fun q => by omega)).symm
    · rw [if_neg (by omega)]
      exact n1 i' (by omega) j
