/-! the steps kept and loss -/
theorem MI.fr2 {a : Ab} {σ σ1 : tk_S} (h : MI a σ) (hf : Fr (fun k _ => k < 132 ∨ (144 ≤ k ∧ k ≠ 150)) σ σ1) : MI a σ1 := by
  have e : ∀ k j, (132 ≤ k ∧ k < 144) ∨ k = 150 → σ1.1 k j = σ.1 k j := fun k j hk => hf k j (fun q => by omega)
  obtain ⟨h0, h1, h2, h3, h4, h5, h6, h7, h8⟩ := h
  refine ⟨by rw [e _ _ (by omega)]; exact h0, by rw [e _ _ (by omega)]; exact h1, by rw [e _ _ (by omega)]; exact h2, fun k hk => ?_, fun i hi => ?_, fun i j hi hj => ?_, fun s t hs ht => ?_, fun t ht => ?_, fun x y hx hy => ?_⟩
  · rw [e _ _ (by omega), e _ _ (by omega)]; exact h3 k hk
  · obtain ⟨g0, g1, g2, g3, g4⟩ := h4 i hi
    refine ⟨by rw [e _ _ (by omega)]; exact g0, by rw [e _ _ (by omega)]; exact g1, by rw [e _ _ (by omega)]; exact g2, fun k hk => ?_, fun x y hx hy => ?_⟩
    · rw [e _ _ (by omega), e _ _ (by omega)]; exact g3 k hk
    · rw [e _ _ (by omega)]; exact g4 x y hx hy
  · rw [e _ _ (by omega)]; exact h5 i j hi hj
  · rw [e _ _ (by omega)]; exact h6 s t hs ht
  · rw [e _ _ (by omega)]; exact h7 t ht
  · rw [e _ _ (by omega)]; exact h8 x y hx hy
def frR : Nat → Nat → Prop := fun k _ => 144 ≤ k ∧ k ≠ 150
/-- the reference's own cells may change -/
theorem relM {a : Ab} {σ σ1 : tk_S} (hw : WF a) (hX : XI a σ) (hK : XK (core a) σ) (hF : XF (a 11) σ) (hM : MI a σ) (f : Fr frR σ σ1) (g : σ1.2 = σ.2) : WF a ∧ XI a σ1 ∧ XK (core a) σ1 ∧ XF (a 11) σ1 ∧ MI a σ1 :=
  ⟨hw, hX.fr hw (f.wk (fun k j q => by have : 144 ≤ k := q.1; unfold frS; omega)), hK.fr (fun k j hk => f k j (fun q => by have := q.1; omega)) g, hF.fr (fun k j hk => f k j (fun q => by have := q.1; omega)), hM.fr2 (f.wk (fun k j q => Or.inr q))⟩
theorem cnt_up (p : Nat → Bool) {m : Nat} : ∀ {n : Nat}, m ≤ n → (∀ i, m ≤ i → i < n → p i = false) → cnt p n = cnt p m := by
  intro n
  induction n with
  | zero => intro h _; rw [show m = 0 by omega]
  | succ n ih =>
    intro h hp
    rcases Nat.lt_or_ge m (n + 1) with q | q
    · show cnt p n + (if p n then 1 else 0) = _
      rw [hp n (by omega) (by omega), ih (by omega) (fun i h1 h2 => hp i h1 (by omega))]
      rfl
    · rw [show m = n + 1 by omega]
theorem setC_12 {a : Ab} (hn : aN0 a ≤ 12) {S : Nat} (h : S < 2 ^ aN0 a) : cnt (fun i => S.testBit i) 12 = setC a S :=
  cnt_up _ hn (fun i h1 _ => Nat.testBit_lt_two_pow (Nat.lt_of_lt_of_le h (Nat.pow_le_pow_right (by omega) h1)))
theorem setW_le {a : Ab} (hw : WF a) (S : Nat) : ∀ n, n ≤ aN0 a → sumB (fun i => S.testBit i) (aWo a) n ≤ 9 * n := by
  intro n
  induction n with
  | zero => intro _; exact Nat.le_refl _
  | succ n ih =>
    intro hn
    have h1 := ih (by omega)
    have h2 := (hw.2.2.2.2.2.1 n (by omega)).2.2.1
    show sumB (fun i => S.testBit i) (aWo a) n + (if S.testBit n then aWo a n else 0) ≤ _
    split <;> omega
theorem s_X8_worthOf (d : Nat) (a : Ab) (hw : WF a) (S : Nat) (σ : tk_S) (h0 : σ.1 132 0 = nI (aN0 a)) (ho : ∀ i, i < aN0 a → σ.1 136 i = nI (aWo a i)) (Q : Int32 → tk_S → Prop) (h : Q (nI (setW a S)) σ) : p_X8_worthOf d [aN 132, aI (nI S)] σ Q := by
  have hn12 := hw.1
  refine e_X8_worthOf d _ (b_X8_worthOf_0 d _ σ Q ?_)
  have L := up_loop (fun i => g_X8_worthOf d 4 [(0, aN 132), (1, aI (nI S)), (2, aI (nI (sumB (fun i => S.testBit i) (aWo a) i))), (3, aI (nI i))] σ Q) (aN0 a) ?_ ?_
  · exact L
  · exact b_X8_worthOf_4 d _ _ _ σ Q ⟨fun _ => h, fun c => absurd (by rw [h0]; exact (le_nI (by omega) (by omega)).mpr (Nat.le_refl _)) c⟩
  · intro i hi ih
    refine b_X8_worthOf_4 d _ _ _ σ Q ⟨fun c => absurd ((le_nI (by omega) (by omega)).mp (h0 ▸ c)) (by omega), fun _ => ⟨vp_in_nI (by omega) (by omega), fun z e => ?_⟩⟩
    rw [bt_shr1 _ (by omega), bt_nI _ (by omega), nI_clamp (by omega), ho i hi] at e
    have e2 : z = nI (sumB (fun i => S.testBit i) (aWo a) (i + 1)) := by
      show z = nI (sumB (fun i => S.testBit i) (aWo a) i + (if S.testBit i then aWo a i else 0))
      rw [e]
      split
      · rw [show (1 : Int32) = nI 1 from rfl, pk_mul, nI_add, Nat.one_mul]
      · rw [show (0 : Int32) = nI 0 from rfl, pk_mul, nI_add, Nat.zero_mul]
    rw [e2, nI_1]
    exact ih
theorem s_X8_bits (d S : Nat) (σ : tk_S) (Q : Int32 → tk_S → Prop) (h : Q (nI (cnt (fun i => S.testBit i) 12)) σ) : p_X8_bits d [aI (nI S)] σ Q := by
  refine e_X8_bits d _ (b_X8_bits_0 d _ σ Q ?_)
  have L := up_loop (fun i => g_X8_bits d 4 [(0, aI (nI S)), (1, aI (nI (cnt (fun i => S.testBit i) i))), (2, aI (nI i))] σ Q) 12 ?_ ?_
  · exact L
  · exact b_X8_bits_4 d _ _ _ σ Q ⟨fun _ => h, fun c => absurd (by decide) c⟩
  · intro i hi ih
    refine b_X8_bits_4 d _ _ _ σ Q ⟨fun c => absurd ((le_nI (n := 12) (by omega) (by omega)).mp c) (by omega), fun _ z e => ?_⟩
    rw [bt_shr1 _ (by omega), bt_nI _ (by omega)] at e
    have e2 : z = nI (cnt (fun i => S.testBit i) (i + 1)) := by
      show z = nI (cnt (fun i => S.testBit i) i + (if S.testBit i then 1 else 0))
      rw [e]
      split
      · rw [nI_1]
      · rw [show (0 : Int32) = nI 0 from rfl, nI_add]
    rw [e2, nI_1]
    exact ih
theorem kept_uq {a : Ab} {S T : Nat} (h : isKept a S) (h2 : isKept a T) : S = T := by
  have h3 := h.2 T h2.1
  have h4 := h2.2 S h.1
  unfold setGE at h3 h4
  omega
/-- the best of those below T -/
def bestT (a : Ab) (T S : Nat) : Prop := S < T ∧ setOK a S ∧ ∀ T', T' < T → setOK a T' → setGE a S T'
theorem setOK_0 (a : Ab) : setOK a 0 := ⟨Nat.two_pow_pos _, fun i j _ _ h => by simp at h⟩
set_option maxHeartbeats 1000000 in
theorem s_X8_kept (d : Nat) (a : Ab) (hw : WF a) (σ : tk_S) (hM : MI a σ) (Q : Int32 → tk_S → Prop) (h : ∀ σ' S, Fr (fun k _ => k = 144) σ σ' → σ'.2 = σ.2 → isKept a S → Q (nI S) σ') : p_X8_kept (d + 3) [aN 132] σ Q := by
  have hn12 := hw.1
  have hp12 : 2 ^ aN0 a ≤ 2 ^ 12 := Nat.pow_le_pow_right (by omega) hn12
  refine e_X8_kept (d + 3) (b_X8_kept_0 (d + 2) σ Q ?_)
  refine s_X8_nears d a hw σ hM _ (fun σ2 f2 g2 n2 => ?_)
  have c0 : σ2.1 132 0 = nI (aN0 a) := by rw [f2 _ _ (by omega)]; exact hM.1
  have co : ∀ i, i < aN0 a → σ2.1 136 i = nI (aWo a i) := fun i hi => by rw [f2 _ _ (by omega)]; exact (hM.2.2.2.2.1 i hi).2.1
  have ep : (1 : Int32) <<< (nI (aN0 a) &&& 31) = nI (2 ^ aN0 a) := by
    have t : ∀ i, i < 13 → (1 : Int32) <<< (nI i &&& 31) = nI (2 ^ i) := by decide +kernel
    exact t _ (by omega)
  have fin : ∀ S, bestT a (2 ^ aN0 a) S → Q (nI S) σ2 := fun S hS => h σ2 S f2 g2 ⟨hS.2.1, fun T hT => hS.2.2 T hT.1 hT⟩
  have L := up_from (fun T => ∀ S, bestT a T S → g_X8_kept (d + 3) 8 [(0, aN 132), (1, aI (nI S)), (2, aI (nI T))] σ2 Q) (2 ^ aN0 a) 1 (Nat.two_pow_pos _) ?_ ?_
  · exact L 0 ⟨by omega, setOK_0 a, fun T' hT' _ => by rw [show T' = 0 by omega]; unfold setGE; omega⟩
  · intro S hS
    refine b_X8_kept_8 (d + 2) _ _ σ2 Q ⟨fun _ => fin S hS, fun c => absurd ?_ c⟩
    rw [c0, ep]
    exact (le_nI (by omega) (by omega)).mpr (Nat.le_refl _)
  · intro T h1 hT ih S hS
    have hSl : S < 2 ^ aN0 a := hS.2.1.1
    refine b_X8_kept_8 (d + 2) _ _ σ2 Q ⟨fun c => absurd ((le_nI (n := 2 ^ aN0 a) (k := T) (by omega) (by omega)).mp (by rw [c0, ep] at c; exact c)) (by omega), fun _ => ?_⟩
    have end69 : ∀ x3 : Int32, x3 = b2i (pB (setOK a T)) → g_X8_kept (d + 3) 69 [(0, aN 132), (1, aI (nI S)), (2, aI (nI T)), (3, aI x3)] σ2 Q := by
      intro x3 e3
      subst e3
      have wT := setW_le hw T (aN0 a) (Nat.le_refl _)
      have wS := setW_le hw S (aN0 a) (Nat.le_refl _)
      have cT := cnt_n (fun i => T.testBit i) 12
      have cS := cnt_n (fun i => S.testBit i) 12
      have wT' : setW a T ≤ 108 := Nat.le_trans wT (by omega)
      have wS' : setW a S ≤ 108 := Nat.le_trans wS (by omega)
      rw [setC_12 hn12 hT] at cT
      rw [setC_12 hn12 hSl] at cS
      refine b_X8_kept_69 (d + 2) _ _ _ σ2 Q ⟨fun c => ?_, fun c => ?_⟩
      · rw [nI_1]
        refine ih S ⟨by have := hS.1; omega, hS.2.1, fun T' hT' ok => ?_⟩
        by_cases e : T' = T
        · subst e; exact absurd ok (pB_f.mp (b2i_0.mp c))
        · exact hS.2.2 T' (by omega) ok
      · have okT := pB_t.mp (b2i_n.mp c)
        rw [nI_1]
        have keep : setGE a S T → g_X8_kept (d + 3) 8 [(0, aN 132), (1, aI (nI S)), (2, aI (nI (T + 1)))] σ2 Q := by
          intro hge
          refine ih S ⟨by have := hS.1; omega, hS.2.1, fun T' hT' ok => ?_⟩
          by_cases e : T' = T
          · subst e; exact hge
          · exact hS.2.2 T' (by omega) ok
        have take : setW a S < setW a T ∨ (setW a S = setW a T ∧ setC a S < setC a T) → g_X8_kept (d + 3) 8 [(0, aN 132), (1, aI (nI T)), (2, aI (nI (T + 1)))] σ2 Q := by
          intro hge
          refine ih T ⟨by omega, okT, fun T' hT' ok => ?_⟩
          by_cases e : T' = T
          · subst e; unfold setGE; omega
          · have := hS.2.2 T' (by omega) ok
            unfold setGE at this ⊢
            omega
        refine s_X8_worthOf _ a hw T σ2 c0 co _ (s_X8_worthOf _ a hw S σ2 c0 co _ ⟨fun c1 => take (Or.inl ((lt_nI (by omega) (by omega)).mp c1)), fun c1 => ?_⟩)
        have n1 : ¬ setW a S < setW a T := fun q => c1 ((lt_nI (by omega) (by omega)).mpr q)
        refine s_X8_worthOf _ a hw T σ2 c0 co _ (s_X8_worthOf _ a hw S σ2 c0 co _ ⟨fun c2 => keep ?_, fun c2 => ?_⟩)
        · have n2 : ¬ setW a T = setW a S := fun q => c2 (by rw [q])
          unfold setGE
          omega
        · have n2 : setW a T = setW a S := (nI_eq (by omega) (by omega)).mp c2
          refine s_X8_bits _ T σ2 _ (s_X8_bits _ S σ2 _ ?_)
          rw [setC_12 hn12 hT, setC_12 hn12 hSl]
          refine ⟨fun c3 => keep ?_, fun c3 => take ?_⟩
          · have n3 := (le_nI (by omega) (by omega)).mp c3
            have := hS.1
            unfold setGE
            omega
          · have n3 : ¬ setC a T ≤ setC a S := fun q => c3 ((le_nI (by omega) (by omega)).mpr q)
            omega
    have P : ∀ i, i < aN0 a → (((σ2.1 144 i) &&& nI T) = 0 ↔ ∀ j, j < aN0 a → T.testBit j = true → ¬ nearP a i j) := by
      intro i hi
      constructor
      · intro e j hj hb hnr
        refine absurd e (and_nz.mpr ⟨j, by omega, ?_, by rw [bt_nI _ (by omega)]; exact hb⟩)
        rw [n2 i hi j]
        exact pB_t.mpr ⟨hj, hnr⟩
      · intro hn
        apply Classical.byContradiction
        intro e
        obtain ⟨j, hj, b1, b2⟩ := and_nz.mp e
        rw [n2 i hi j, pB_t] at b1
        rw [bt_nI _ hj] at b2
        exact hn j b1.1 b2 b1.2
    have L2 := up_loop (fun i => (∀ i' j, i' < i → j < aN0 a → T.testBit i' = true → T.testBit j = true → ¬ nearP a i' j) → g_X8_kept (d + 3) 23 [(0, aN 132), (1, aI (nI S)), (2, aI (nI T)), (3, aI 1), (4, aI (nI i))] σ2 Q) (aN0 a) ?_ ?_
    · exact L2 (fun i' j h1 => by omega)
    · intro hok
      refine b_X8_kept_23 (d + 2) _ _ _ _ σ2 Q ⟨fun _ => end69 1 ?_, fun c => absurd (by rw [c0]; exact (le_nI (by omega) (by omega)).mpr (Nat.le_refl _)) c⟩
      have q : setOK a T := ⟨hT, fun i j hi hj b1 b2 => hok i j hi hj b1 b2⟩
      rw [pB_t.mpr q]
      rfl
    · intro i hi ih2 hok
      have nxt : (T.testBit i = true → ∀ j, j < aN0 a → T.testBit j = true → ¬ nearP a i j) → g_X8_kept (d + 3) 23 [(0, aN 132), (1, aI (nI S)), (2, aI (nI T)), (3, aI 1), (4, aI (nI i + 1))] σ2 Q := by
        intro hq
        rw [nI_1]
        refine ih2 (fun i' j h1 hj b1 b2 => ?_)
        by_cases e : i' = i
        · subst e; exact hq b1 j hj b2
        · exact hok i' j (by omega) hj b1 b2
      refine b_X8_kept_23 (d + 2) _ _ _ _ σ2 Q ⟨fun c => absurd ((le_nI (by omega) (by omega)).mp (c0 ▸ c)) (by omega), fun _ => ⟨fun c => absurd c (by decide), fun _ => ?_⟩⟩
      rw [bt_shr1 _ (by omega), bt_nI _ (by omega), nI_clamp (by omega)]
      refine ⟨fun c => nxt (fun q => ?_), fun c => ⟨vp_in_nI (by omega) (by omega), fun c2 => ?_, fun c2 => nxt (fun _ => (P i hi).mp c2)⟩⟩
      · rw [if_pos q] at c; exact absurd c (by decide)
      · have hb : T.testBit i = true := by
          cases e : T.testBit i
          · rw [e] at c; exact absurd rfl c
          · rfl
        have bad : ¬ setOK a T := fun q => c2 ((P i hi).mpr (fun j hj b2 => q.2 i j hi hj hb b2))
        refine b_X8_kept_23 (d + 2) _ _ _ _ σ2 Q ⟨fun _ => end69 0 ?_, fun _ => ⟨fun _ => end69 0 ?_, fun c => absurd rfl c⟩⟩
        · rw [pB_f.mpr bad]; rfl
        · rw [pB_f.mpr bad]; rfl
/-- what the class' choice leaves -/
theorem relC {a : Ab} {σ σ1 : tk_S} (hw : WF a) (hX : XI a σ) (hF : XF (a 11) σ) (hM : MI a σ) (f : Fr (fun k j => k = 23 ∨ k = 24 ∨ k = 51 ∨ (k = 0 ∧ j = 14)) σ σ1) : XI a σ1 ∧ XF (a 11) σ1 ∧ MI a σ1 :=
  ⟨hX.fr hw (f.wk (fun k j q => by unfold frS; omega)), hF.fr (fun k j hk => f k j (by omega)), hM.fr (f.wk (fun k j q => by show k < 132; omega))⟩
theorem step_kept (d : Nat) (σ : tk_S) (hR : Rel σ) : p_X7_kept (d + 16) [aN 0] σ (fun r σ1 => p_X8_kept (d + 16) [aN 132] σ1 (fun r' σ2 => r = r' ∧ Rel σ2)) := by
  obtain ⟨a, hw, hX, hK, hF, hM⟩ := hR
  refine e_X7_kept (d + 16) (b_X7_kept_0 (d + 15) σ _ ?_)
  refine s_X7_chosen d a hw σ hX hK _ (fun σ1 S f1 k1 hK1 => ?_)
  obtain ⟨hX1, hF1, hM1⟩ := relC hw hX hF hM f1
  refine s_X8_kept (d + 13) a hw σ1 hM1 _ (fun σ2 S2 f2 g2 k2 => ⟨by rw [kept_uq k1 k2], a, relM hw hX1 hK1 hF1 hM1 (f2.wk (fun k j q => by unfold frR; omega)) g2⟩)
theorem s_X7_left (d : Nat) (a : Ab) (hw : WF a) (S : Nat) (σ : tk_S) (h0 : σ.1 0 1 = nI (aN0 a)) (ho : ∀ i, i < aN0 a → σ.1 (72 + 5 * i) 1 = nI (aWo a i)) (Q : Int32 → tk_S → Prop) (h : Q (nI (sumB (fun i => !S.testBit i) (aWo a) (aN0 a))) σ) : g_X7_loss (d + 1) 9 [(0, aN 0), (1, aI (nI S)), (2, aI 0), (3, aI 0)] σ Q := by
  have hn12 := hw.1
  have L := up_loop (fun i => g_X7_loss (d + 1) 9 [(0, aN 0), (1, aI (nI S)), (2, aI (nI (sumB (fun i => !S.testBit i) (aWo a) i))), (3, aI (nI i))] σ Q) (aN0 a) ?_ ?_
  · exact L
  · exact b_X7_loss_9 d _ _ _ σ Q ⟨fun _ => h, fun c => absurd (by rw [h0]; exact (le_nI (by omega) (by omega)).mpr (Nat.le_refl _)) c⟩
  · intro i hi ih
    refine b_X7_loss_9 d _ _ _ σ Q ⟨fun c => absurd ((le_nI (by omega) (by omega)).mp (h0 ▸ c)) (by omega), fun _ => ?_⟩
    refine s_X7_has d _ (by omega) σ _ ?_
    rw [bt_nI _ (by omega), nI_clamp (by omega), nI_1, show 1 + 71 + 5 * i = 72 + 5 * i by omega, ho i hi]
    have e : ∀ b, S.testBit i = b → sumB (fun i => !S.testBit i) (aWo a) (i + 1) = sumB (fun i => !S.testBit i) (aWo a) i + (if !b then aWo a i else 0) := fun b hb => by
      show sumB (fun i => !S.testBit i) (aWo a) i + (if !S.testBit i then aWo a i else 0) = _
      rw [hb]
    refine ⟨fun c => ⟨vp_in_nI (by omega) (by omega), fun z ez => ?_⟩, fun c => ?_⟩
    · rw [ez, nI_add]
      have := e false (b2i_0.mp c)
      rw [this] at ih
      exact ih
    · have := e true (b2i_n.mp c)
      rw [this] at ih
      rw [show nI (sumB (fun i => !S.testBit i) (aWo a) i) + 0 = nI (sumB (fun i => !S.testBit i) (aWo a) i + 0) from nI_add _ 0]
      exact ih
set_option maxHeartbeats 1000000 in
theorem step_loss (d : Nat) (σ : tk_S) (hR : Rel σ) : p_X7_loss (d + 16) [aN 0] σ (fun r σ1 => p_X8_loss (d + 16) [aN 132] σ1 (fun r' σ2 => r = r' ∧ Rel σ2)) := by
  obtain ⟨a, hw, hX, hK, hF, hM⟩ := hR
  have hn12 := hw.1
  refine e_X7_loss (d + 16) (b_X7_loss_0 (d + 15) σ _ ?_)
  refine s_X7_chosen d a hw σ hX hK _ (fun σ1 S f1 k1 hK1 => ?_)
  obtain ⟨hX1, hF1, hM1⟩ := relC hw hX hF hM f1
  refine s_X7_left (d + 15) a hw S σ1 hX1.1 (fun i hi => (hX1.2.2.2.2.1 i hi).2.1) _ ?_
  refine e_X8_loss (d + 16) (b_X8_loss_0 (d + 15) σ1 _ ?_)
  refine s_X8_kept (d + 12) a hw σ1 hM1 _ (fun σ2 S2 f2 g2 k2 => ?_)
  have R2 := relM hw hX1 hK1 hF1 hM1 (f2.wk (fun k j q => by unfold frR; omega)) g2
  rw [kept_uq k2 k1, hM1.1]
  obtain ⟨U, hU, eU, bU⟩ := row_nat (x := (((1 : Int32) <<< (nI (aN0 a) &&& 31)) - 1) &&& (nI S ^^^ (-1))) (fun i hi => by
    by_cases h32 : i < 32
    · rw [b_and, mask_n _ (by omega) _ h32, decide_eq_false (by omega)]; rfl
    · exact b_big (by omega))
  rw [eU]
  refine s_X8_worthOf _ a hw U σ2 R2.2.2.2.2.1 (fun i hi => (R2.2.2.2.2.2.2.2.2.1 i hi).2.1) _ ⟨?_, a, R2⟩
  congr 1
  refine sumB_c (fun i hi => ?_) (fun _ _ => rfl)
  rw [bU i (by omega), b_and, mask_n _ (by omega) _ (by omega), decide_eq_true hi, bt_not _ (by omega), bt_nI _ (by omega), Bool.true_and]
