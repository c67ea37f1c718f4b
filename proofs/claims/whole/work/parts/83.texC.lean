/-! TEXTURES by the reference: what it finds; the steps cost and texture -/
def fr9 : Nat → Nat → Prop := fun k j => (k = 132 ∧ 20 ≤ j) ∨ (146 ≤ k ∧ k ≤ 149)
def texS (a : Ab) (σ : tk_S) : Prop := σ.1 132 20 = nI (gmN a) ∧ (∀ k, k < gmN a → σ.1 146 k = nI (gm a k)) ∧ ((σ.1 132 21 = -1 ∧ noTex a) ∨ ∃ t, isTex a t ∧ σ.1 132 21 = nI (texC a t) ∧ ∀ k, k < gmN a → σ.1 148 k = nI (t (gm a k)))
theorem tex_end {a : Ab} (hw : WF a) {σ : tk_S} (h : bInv a (fun _ => True) σ) : (σ.1 132 21 = -1 ∧ noTex a) ∨ ∃ t, isTex a t ∧ σ.1 132 21 = nI (texC a t) ∧ ∀ k, k < gmN a → σ.1 148 k = nI (t (gm a k)) := by
  rcases h with ⟨q1, q2⟩ | ⟨sb, q1, _, q3, q4, q5⟩
  · exact Or.inl ⟨q1, fun t ht => q2 _ (tex_okG ht) trivial⟩
  · obtain ⟨b1, b2⟩ := tex_bst hw (s := sb) ⟨q1, fun s' hs' => q5 s' hs' trivial⟩
    exact Or.inr ⟨unG a sb, b1, by rw [q3, b2], fun k hk => by rw [q4 k hk, unG_gm hk]⟩
set_option maxHeartbeats 2000000 in
theorem s_X8_textured (d : Nat) (a : Ab) (hw : WF a) (σ : tk_S) (hM : MI a σ) (Q : tk_S → Prop) (h : ∀ σ', Fr fr9 σ σ' → σ'.2 = σ.2 → texS a σ' → Q σ') : p_X8_textured (d + 2) [aN 132] σ Q := by
  have hn12 := hw.1
  have hm12 := gmN_le a
  have hp9 := hw.2.2.2.2.2.2.2.2.2.1
  refine e_X8_textured (d + 2) (b_X8_textured_0 (d + 1) σ Q ?_)
  have L := up_loop (fun i => ∀ σ1, Fr fr9 σ σ1 → σ1.2 = σ.2 → σ1.1 132 20 = nI (cnt (isG a) i) → (∀ k, k < cnt (isG a) i → σ1.1 146 k = nI (gm a k) ∧ ∀ j, bt (σ1.1 149 k) j = pB (j < k ∧ nbrP a (gm a k) (gm a j))) → g_X8_textured (d + 2) 7 [(0, aN 132), (1, aI (nI i))] σ1 Q) (aN0 a) ?_ ?_
  · exact L _ (Fr.up σ _ (by unfold fr9; omega)) rfl rd_s (fun k hk => absurd hk (Nat.not_lt_zero k))
  · intro σ1 f1 g1 c1 k1
    have c1 : σ1.1 132 20 = nI (gmN a) := c1
    have hp1 : ∀ t, t < 4 → σ1.1 143 t = nI (aPr a t) := fun t ht => by rw [f1 _ _ (by unfold fr9; omega)]; exact hM.2.2.2.2.2.2.2.1 t ht
    refine b_X8_textured_7 (d + 1) _ σ1 Q ⟨fun _ z2 e2 => ?_, fun q => absurd (by rw [f1 _ _ (by unfold fr9; omega), hM.1]; exact (le_nI (by omega) (by omega)).mpr (Nat.le_refl _)) q⟩
    have e2 : z2 = nI (aPr a 0) := e2.trans (hp1 0 (by omega))
    subst e2
    have hF1 : texF a σ1 := ⟨c1, hp1, fun s t hs ht => by rw [f1 _ _ (by unfold fr9; omega)]; exact hM.2.2.2.2.2.2.1 s t hs ht, fun k hk => (k1 k hk).2⟩
    have L2 := up_from (fun t => ∀ l, (∀ t', t' < t → l ≤ aPr a t') → l ≤ 99 → g_X8_textured (d + 2) 123 [(0, aN 132), (1, aI (nI l)), (2, aI (nI t))] σ1 Q) 4 1 (by omega) ?_ ?_
    · exact L2 (aPr a 0) (fun t' ht' => by rw [show t' = 0 by omega]; exact Nat.le_refl _) (hp9 0 (by omega))
    · intro l hl hl9
      refine b_X8_textured_123 (d + 1) _ _ σ1 Q ⟨fun _ σ2 e2 => ?_, fun q => absurd (by decide) q⟩
      have e2 : σ2 = tk_up (tk_up σ1 132 21 (-1)) 147 0 (-1) := e2
      have f2 : Fr fr8 σ1 σ2 := by rw [e2]; exact (Fr.up _ _ (by unfold fr8; omega)).tr (Fr.up _ _ (by unfold fr8; omega))
      have w8 : ∀ k j, fr8 k j → fr9 k j := fun k j q => by unfold fr8 at q; unfold fr9; omega
      have hF2 := hF1.fr f2
      rw [hF2.1]
      have fin : ∀ σ3, Fr fr8 σ1 σ3 → σ3.2 = σ1.2 → bInv a (fun _ => True) σ3 → Q σ3 := fun σ3 f3 g3 b3 => h σ3 (f1.tr (f3.wk w8)) (g3.trans g1) ⟨(hF1.fr f3).1, fun k hk => by rw [f3 _ _ (by unfold fr8; omega)]; exact (k1 k hk).1, tex_end hw b3⟩
      refine ⟨fun q => ?_, fun q => ?_⟩
      · have hpos : 1 ≤ gmN a := by
          rcases Nat.eq_zero_or_pos (gmN a) with z | z
          · rw [z] at q; exact absurd rfl q
          · exact z
        have := s_tex_rec (d + 1) a hw l hl σ1 hF1 Q (gmN a - 1) 0 (by omega) (fun _ => 0) ⟨fun j hj => by omega, fun i j hij hj => by omega⟩ (fun σ3 f3 g3 _ b3 => ?_) 4 0 rfl σ2 f2 (by rw [e2]; rfl) (fun j hj => by omega) (by rw [e2, rd_s]; rfl) (Or.inl ⟨by rw [e2, rd_o (by omega), rd_s], fun s' _ hb => ?_⟩)
        · exact this
        · refine b_X8_textured_183 (d + 1) _ _ _ σ3 Q ⟨fun _ => fin σ3 f3 g3 (b3.c (fun s' hs' => ⟨fun _ => trivial, fun _ => Or.inr ⟨fun i hi => by omega, hs'.1 0 (by omega)⟩⟩)), fun z => absurd (by decide) z⟩
        · rcases hb with ⟨j, j1, _⟩ | ⟨_, j2⟩ <;> omega
      · have z : gmN a = 0 := (nI_eq (b := 0) (by omega) (by omega)).mp q
        have hF3 : texF a (tk_up σ2 132 21 0) := hF2.fr (Fr.up _ _ (by unfold fr8; omega))
        refine b_X8_textured_183 (d + 1) _ _ _ _ Q ⟨fun v => absurd v (by decide), fun _ => ⟨fun _ => fin _ (f2.tr (Fr.up _ _ (by unfold fr8; omega))) (by rw [e2]; rfl) (Or.inr ⟨fun _ => 0, ⟨fun k hk => by omega, fun j k _ hk => by omega⟩, trivial, ?_, fun j hj => by omega, fun s' _ _ => ⟨?_, fun _ => Or.inl (fun i hi => by omega)⟩⟩), fun v => absurd (by rw [hF3.1, z]; decide) v⟩⟩
        · rw [z, rd_s]; rfl
        · rw [z]; exact Nat.le_refl _
    · intro t t1 t4 ih l hl hl9
      have hpt := hp9 t t4
      refine b_X8_textured_123 (d + 1) _ _ σ1 Q ⟨fun q => absurd ((le_nI (n := 4) (by omega) (by omega)).mp q) (by omega), fun _ => ⟨vp_in_nI t4 (by omega), ?_⟩⟩
      rw [nI_clamp (by omega), hp1 t t4, le_nI (by omega) (by omega), nI_1]
      refine ⟨fun q => ih l (fun t' ht' => ?_) hl9, fun q => ⟨vp_in_nI t4 (by omega), fun z7 e7 => ?_⟩⟩
      · by_cases z : t' = t
        · subst z; exact q
        · exact hl t' (by omega)
      · subst e7
        refine ih (aPr a t) (fun t' ht' => ?_) hpt
        by_cases z : t' = t
        · subst z; exact Nat.le_refl _
        · have := hl t' (by omega); omega
  · intro i hi ih σ1 f1 g1 c1 k1
    have hWi := hw.2.2.2.2.2.1 i hi
    have hki := hWi.1
    refine b_X8_textured_7 (d + 1) _ σ1 Q ⟨fun q => absurd ((le_nI (n := aN0 a) (k := i) (by omega) (by omega)).mp (by rw [f1 _ _ (by unfold fr9; omega), hM.1] at q; exact q)) (by omega), fun _ => ⟨vp_in_nI (by omega) (by omega), ?_⟩⟩
    rw [nI_clamp (by omega), f1 135 i (by unfold fr9; omega), (hM.2.2.2.2.1 i hi).1, show (1 : Int32) = nI 1 from rfl, nI_eq (by omega) (by omega), show nI 1 = (1 : Int32) from rfl, nI_1]
    refine ⟨fun q => ?_, fun q => ?_⟩
    · have hg := isG_t.mpr q
      obtain ⟨b1, b2⟩ := gm_of hi hg
      have hcle : cnt (isG a) i ≤ i := cnt_n _ _
      rw [rd_o (show ¬ ((132 : Nat) = 146 ∧ _) by omega), c1, nI_clamp (by omega)]
      refine ⟨vp_in_nI (by omega) (by omega), vp_in_nI (by omega) (by omega), fun σ7 e7 => ?_⟩
      have r7 : ∀ k j, ¬ ((k = 146 ∨ k = 149) ∧ j = cnt (isG a) i) → σ7.1 k j = σ1.1 k j := fun k j hk => by rw [e7, rd_o (by omega), rd_o (by omega)]
      have ec : cnt (isG a) (i + 1) = cnt (isG a) i + 1 := by
        show cnt (isG a) i + (if isG a i then 1 else 0) = _
        rw [hg]; rfl
      have L2 := up_loop (fun l => ∀ σ2, Fr fr9 σ σ2 → σ2.2 = σ.2 → σ2.1 132 20 = nI (cnt (isG a) i) → (∀ k, k < cnt (isG a) i → σ2.1 146 k = nI (gm a k) ∧ ∀ j, bt (σ2.1 149 k) j = pB (j < k ∧ nbrP a (gm a k) (gm a j))) → σ2.1 146 (cnt (isG a) i) = nI i → (∀ j, bt (σ2.1 149 (cnt (isG a) i)) j = pB (j < l ∧ nbrP a i (gm a j))) → g_X8_textured (d + 2) 50 [(0, aN 132), (1, aI (nI i)), (2, aI (nI l))] σ2 Q) (cnt (isG a) i) ?_ ?_
      · refine L2 σ7 (f1.tr (by rw [e7]; exact (Fr.up _ _ (by unfold fr9; omega)).tr (Fr.up _ _ (by unfold fr9; omega)))) (by rw [e7]; exact g1) (by rw [r7 _ _ (by omega)]; exact c1) (fun k hk => ?_) (by rw [e7, rd_o (by omega), rd_s]) (fun j => ?_)
        · rw [r7 _ _ (by omega), r7 _ _ (by omega)]; exact k1 k hk
        · rw [e7, rd_s, b_0]; exact (pB_f.mpr (fun q => by omega)).symm
      · intro σ2 f2 g2 c2 k2 a2 m2
        refine b_X8_textured_50 (d + 1) _ _ σ2 Q ⟨fun _ => ?_, fun q => absurd (by rw [c2]; exact (le_nI (by omega) (by omega)).mpr (Nat.le_refl _)) q⟩
        rw [c2, nI_1, nI_1]
        refine ih _ (f2.tr (Fr.up _ _ (by unfold fr9; omega))) g2 (by rw [rd_s, ec]) (fun k hk => ?_)
        rw [rd_o (by omega), rd_o (by omega)]
        by_cases z : k = cnt (isG a) i
        · subst z
          refine ⟨by rw [b1]; exact a2, fun j => ?_⟩
          rw [m2 j, b1]
        · exact k2 k (by omega)
      · intro l hl ihl σ2 f2 g2 c2 k2 a2 m2
        refine b_X8_textured_50 (d + 1) _ _ σ2 Q ⟨fun q => absurd ((le_nI (n := cnt (isG a) i) (k := l) (by omega) (by omega)).mp (by rw [c2] at q; exact q)) (by omega), fun _ => ?_⟩
        obtain ⟨gl1, gl2, gl3⟩ := gm_at (a := a) (k := l) (by omega)
        rw [nI_clamp (by omega), (k2 l hl).1, c2, nI_clamp (by omega), nI_1]
        refine ⟨vp_in_nI (by omega) (by omega), vp_in_nI (by omega) (by omega), ?_⟩
        have hWl := hw.2.2.2.2.2.1 (gm a l) gl1
        refine s_X8_farOf d i (gm a l) (by omega) (by omega) σ2 (pinP a i) (pinP a (gm a l)) (fun x y hx hy => by rw [f2 _ _ (by unfold fr9; omega)]; exact (hM.2.2.2.2.1 i hi).2.2.2.2 x y hx hy) (fun x y hx hy => by rw [f2 _ _ (by unfold fr9; omega)]; exact (hM.2.2.2.2.1 _ gl1).2.2.2.2 x y hx hy) _ (fun Lf hL => ?_)
        have far := far_of_lb hWi hWl hL
        have fl := far.1
        rw [show (3 : Int32) = nI 3 from rfl, lt_nI (by omega) (by omega)]
        have nbi : nbrP a i (gm a l) ↔ Lf ≤ 3 := by
          rw [far_lt far]
          have : gm a l < i := by
            have := gm_lt b2 hl
            rw [b1] at this; exact this
          exact ⟨fun q => q.2.2.2, fun v => ⟨by omega, q, isG_t.mp gl2, v⟩⟩
        have go : ∀ v : Int32, (∀ j, bt v j = pB (j < l + 1 ∧ nbrP a i (gm a j))) → g_X8_textured (d + 2) 50 [(0, aN 132), (1, aI (nI i)), (2, aI (nI (l + 1)))] (tk_up σ2 149 (cnt (isG a) i) v) Q := by
          intro v hv
          refine ihl _ (f2.tr (Fr.up _ _ (by unfold fr9; omega))) g2 (by rw [rd_o (by omega)]; exact c2) (fun k hk => ?_) (by rw [rd_o (by omega)]; exact a2) (fun j => by rw [rd_s]; exact hv j)
          rw [rd_o (by omega), rd_o (by omega)]; exact k2 k hk
        refine ⟨fun z => ⟨vp_in_nI (by omega) (by omega), go _ (fun j => ?_)⟩, fun z => ⟨vp_in_nI (by omega) (by omega), go _ (fun j => ?_)⟩⟩
        · rw [b_or, b_0, Bool.or_false, m2 j]
          refine pB_c ⟨fun v => ⟨by omega, v.2⟩, fun v => ⟨?_, v.2⟩⟩
          by_cases e : j = l
          · subst e; have := nbi.mp v.2; omega
          · omega
        · rw [b_or, m2 j, bt_1 (by omega)]
          apply Bool.eq_iff_iff.mpr
          rw [Bool.or_eq_true, pB_t, pB_t, decide_eq_true_iff]
          constructor
          · rintro (v | v)
            · exact ⟨by omega, v.2⟩
            · subst v; exact ⟨by omega, nbi.mpr (by omega)⟩
          · intro v
            by_cases e : j = l
            · exact Or.inr e
            · exact Or.inl ⟨by omega, v.2⟩
    · have ec : cnt (isG a) (i + 1) = cnt (isG a) i := by
        show cnt (isG a) i + (if isG a i then 1 else 0) = _
        have : isG a i = false := by
          cases e : isG a i
          · rfl
          · exact absurd (isG_t.mp e) q
        rw [this]; rfl
      exact ih σ1 f1 g1 (by rw [ec]; exact c1) (fun k hk => k1 k (by omega))
theorem texR_uq {a : Ab} {i : Nat} (hi : i < aN0 a) {r r' : Int32} (h : texR a i r) (h2 : texR a i r') : r = r' := by
  rcases h with ⟨q1, q2⟩ | ⟨t, q1, q2, q3⟩
  · rcases h2 with ⟨z1, z2⟩ | ⟨t', z1, z2, z3⟩
    · rw [q1, z1]
    · rcases q2 with v | v
      · exact absurd z1.1 (v t')
      · exact absurd z2 v
  · rcases h2 with ⟨z1, z2⟩ | ⟨t', z1, z2, z3⟩
    · rcases z2 with v | v
      · exact absurd q1.1 (v t)
      · exact absurd q2 v
    · rw [q3, z3, (tex_uq q1 z1).2 i hi q2]
theorem s_X8_textureOf (d : Nat) (a : Ab) (hw : WF a) (σ : tk_S) (hS : texS a σ) {i : Nat} (hi : i < aN0 a) (Q : Int32 → tk_S → Prop) (h : ∀ r, texR a i r → Q r σ) : p_X8_textureOf d [aN 132, aI (nI i)] σ Q := by
  have hn12 := hw.1
  have hm12 := gmN_le a
  obtain ⟨s1, s2, s3⟩ := hS
  refine e_X8_textureOf d _ (b_X8_textureOf_0 d _ σ Q ⟨fun q => ?_, fun q => h _ (Or.inl ⟨rfl, Or.inl ?_⟩)⟩)
  · rcases s3 with z | ⟨t, t1, t2, t3⟩
    · exact absurd z.1 q
    · have L := up_loop (fun k => (∀ k', k' < k → gm a k' ≠ i) → g_X8_textureOf d 12 [(0, aN 132), (1, aI (nI i)), (2, aI (nI k))] σ Q) (gmN a) ?_ ?_
      · exact L (fun k' hk' => by omega)
      · intro hz
        refine b_X8_textureOf_12 d _ _ σ Q ⟨fun _ => h _ (Or.inl ⟨rfl, Or.inr (fun v => ?_)⟩), fun z => absurd (by rw [s1]; exact (le_nI (by omega) (by omega)).mpr (Nat.le_refl _)) z⟩
        obtain ⟨b1, b2⟩ := gm_of hi (isG_t.mpr v)
        exact hz _ b2 b1
      · intro k hk ih hz
        have gk := gm_at hk
        refine b_X8_textureOf_12 d _ _ σ Q ⟨fun z => absurd ((le_nI (n := gmN a) (k := k) (by omega) (by omega)).mp (by rw [s1] at z; exact z)) (by omega), fun _ => ⟨vp_in_nI (by omega) (by omega), ?_⟩⟩
        rw [nI_clamp (by omega), s2 k hk, nI_eq (by omega) (by omega), nI_1]
        refine ⟨fun z => ih (fun k' hk' => ?_), fun z => ⟨vp_in_nI (by omega) (by omega), ?_⟩⟩
        · by_cases e : k' = k
          · subst e; exact z
          · exact hz k' (by omega)
        · rw [t3 k hk, z]
          refine h _ (Or.inr ⟨t, t1, ?_, rfl⟩)
          rw [← z]; exact isG_t.mp gk.2.1
  · rcases s3 with z | ⟨t, t1, t2, t3⟩
    · exact z.2
    · exfalso
      have hc : texC a t ≤ 99 * gmN a := by
        rw [texC_gm]; exact cosG_le hw _ (tex_okG t1.1).1
      have := nI_pos (n := texC a t) (by omega)
      rw [← t2, q] at this
      exact this (by decide)
theorem MI.fr3 {a : Ab} {σ σ1 : tk_S} (h : MI a σ) (hf : Fr (fun k j => k < 132 ∨ (k = 132 ∧ 20 ≤ j) ∨ (144 ≤ k ∧ k ≠ 150)) σ σ1) : MI a σ1 := by
  have e : ∀ k j, (k = 132 ∧ j < 20) ∨ (133 ≤ k ∧ k < 144) ∨ k = 150 → σ1.1 k j = σ.1 k j := fun k j hk => hf k j (fun q => by omega)
  obtain ⟨h0, h1, h2, h3, h4, h5, h6, h7, h8⟩ := h
  refine ⟨by rw [e _ _ (by omega)]; exact h0, by rw [e _ _ (by omega)]; exact h1, by rw [e _ _ (by omega)]; exact h2, fun k hk => ?_, fun i hi => ?_, fun i j hi hj => ?_, fun s t hs ht => ?_, fun t ht => ?_, fun x y hx hy => ?_⟩
  · rw [e _ _ (by omega), e _ _ (by omega)]; exact h3 k hk
  · exact MIs.keep (h4 i hi) (fun k j h1 h2 => e k j (by omega))
  · rw [e _ _ (by omega)]; exact h5 i j hi hj
  · rw [e _ _ (by omega)]; exact h6 s t hs ht
  · rw [e _ _ (by omega)]; exact h7 t ht
  · rw [e _ _ (by omega)]; exact h8 x y hx hy
theorem relM9 {a : Ab} {σ σ1 : tk_S} (hw : WF a) (hX : XI a σ) (hK : XK (core a) σ) (hF : XF (a 11) σ) (hM : MI a σ) (f : Fr fr9 σ σ1) (g : σ1.2 = σ.2) : WF a ∧ XI a σ1 ∧ XK (core a) σ1 ∧ XF (a 11) σ1 ∧ MI a σ1 :=
  ⟨hw, hX.fr hw (f.wk (fun k j q => by unfold fr9 at q; unfold frS; omega)), hK.fr (fun k j hk => f k j (by unfold fr9; omega)) g, hF.fr (fun k j hk => f k j (by unfold fr9; omega)), hM.fr3 (f.wk (fun k j q => by unfold fr9 at q; omega))⟩
theorem relV {a : Ab} {σ σ1 : tk_S} (hw : WF a) (hX : XI a σ) (hF : XF (a 11) σ) (hM : MI a σ) (f : Fr frV σ σ1) : XI a σ1 ∧ XF (a 11) σ1 ∧ MI a σ1 :=
  ⟨hX.fr hw (f.wk (fun k j q => by unfold frV at q; unfold frS; omega)), hF.fr (fun k j hk => f k j (by unfold frV; omega)), hM.fr (f.wk (fun k j q => by unfold frV at q; show k < 132; omega))⟩
theorem step_cost (d : Nat) (σ : tk_S) (hR : Rel σ) : p_X7_cost (d + 31) [aN 0] σ (fun r σ1 => p_X8_cost (d + 31) [aN 132] σ1 (fun r' σ2 => r = r' ∧ Rel σ2)) := by
  obtain ⟨a, hw, hX, hK, hF, hM⟩ := hR
  refine e_X7_cost (d + 31) (b_X7_cost_0 (d + 30) σ _ ?_)
  refine s_X7_weave d a hw σ hX hK _ (fun σ1 f1 x1 t1 hK1 => ?_)
  obtain ⟨hX1, hF1, hM1⟩ := relV hw hX hF hM f1
  refine s_sumOfPrices (d + 30) a hw σ1 x1 t1 _ (fun r hr => ?_)
  refine e_X8_cost (d + 31) (b_X8_cost_0 (d + 30) σ1 _ ?_)
  refine s_X8_textured (d + 28) a hw σ1 hM1 _ (fun σ2 f2 g2 s2 => ⟨?_, a, relM9 hw hX1 hK1 hF1 hM1 f2 g2⟩)
  rcases s2.2.2 with ⟨z1, z2⟩ | ⟨t, z1, z2, z3⟩
  · rcases hr with ⟨q1, q2⟩ | ⟨t', q1, q2⟩
    · rw [q1, z1]
    · exact absurd q1.1 (z2 t')
  · rcases hr with ⟨q1, q2⟩ | ⟨t', q1, q2⟩
    · exact absurd z1.1 (q2 t)
    · rw [q2, z2, (tex_uq z1 q1).1]
theorem step_texture (d : Nat) (x : Int32) (σ : tk_S) (hR : Rel σ) : p_X7_texture (d + 31) [aN 0, aI x] σ (fun r σ1 => p_X8_texture (d + 31) [aN 132, aI x] σ1 (fun r' σ2 => r = r' ∧ Rel σ2)) := by
  obtain ⟨a, hw, hX, hK, hF, hM⟩ := id hR
  have hn12 := hw.1
  refine e_X7_texture (d + 31) _ (b_X7_texture_0 (d + 30) _ σ _ ?_)
  refine s_X7_isShape (d + 30) x hn12 σ hX.1 _ (fun i hi e => ⟨fun _ => ?_, fun z => absurd z (by decide)⟩) (fun no => ⟨fun z => absurd rfl z, fun _ => ?_⟩)
  · subst e
    have hki := (hw.2.2.2.2.2.1 i hi).1
    refine s_X7_weave d a hw σ hX hK _ (fun σ1 f1 x1 t1 hK1 => ?_)
    obtain ⟨hX1, hF1, hM1⟩ := relV hw hX hF hM f1
    refine s_textureOf (d + 29) a hw σ1 x1 t1 hi _ (fun r hr => ?_)
    refine e_X8_texture (d + 31) _ (b_X8_texture_0 (d + 30) _ σ1 _ ?_)
    refine s_X8_isShape (d + 29) _ hn12 σ1 hM1.1 _ (fun _ _ _ => ⟨fun z => absurd z (by decide), fun _ => ⟨vp_in_nI (by omega) (by omega), ?_⟩⟩) (fun no => absurd ⟨i, hi, rfl⟩ no)
    rw [nI_clamp (by omega), (hM1.2.2.2.2.1 i hi).1, show (1 : Int32) = nI 1 from rfl, nI_eq (by omega) (by omega)]
    refine ⟨fun z => ?_, fun z => ⟨?_, a, hw, hX1, hK1, hF1, hM1⟩⟩
    · refine s_X8_textured (d + 28) a hw σ1 hM1 _ (fun σ2 f2 g2 s2 => ?_)
      exact s_X8_textureOf (d + 30) a hw σ2 s2 hi _ (fun r' hr' => ⟨texR_uq hi hr hr', a, relM9 hw hX1 hK1 hF1 hM1 f2 g2⟩)
    · rcases hr with ⟨q1, q2⟩ | ⟨t', q1, q2, q3⟩
      · exact q1
      · exact absurd q2 z
  · refine e_X8_texture (d + 31) _ (b_X8_texture_0 (d + 30) _ σ _ ?_)
    exact s_X8_isShape (d + 29) _ hn12 σ hM.1 _ (fun i hi e => absurd ⟨i, hi, e⟩ no) (fun _ => ⟨fun _ => ⟨rfl, hR⟩, fun z => absurd rfl z⟩)
