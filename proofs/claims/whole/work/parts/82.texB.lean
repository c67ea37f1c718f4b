/-! TEXTURES by the reference: its search -/
def fr8 : Nat → Nat → Prop := fun k j => k = 147 ∨ k = 148 ∨ (k = 132 ∧ j = 21)
/-- what the search reads -/
def texF (a : Ab) (σ : tk_S) : Prop := σ.1 132 20 = nI (gmN a) ∧ (∀ t, t < 4 → σ.1 143 t = nI (aPr a t)) ∧ (∀ s t, s < 4 → t < 4 → σ.1 142 (4 * s + t) = nI (aAp a s t)) ∧ ∀ k, k < gmN a → ∀ j, bt (σ.1 149 k) j = pB (j < k ∧ nbrP a (gm a k) (gm a j))
theorem texF.fr {a : Ab} {σ σ1 : tk_S} (h : texF a σ) (f : Fr fr8 σ σ1) : texF a σ1 :=
  ⟨by rw [f _ _ (by unfold fr8; omega)]; exact h.1, fun t ht => by rw [f _ _ (by unfold fr8; omega)]; exact h.2.1 t ht, fun s t hs ht => by rw [f _ _ (by unfold fr8; omega)]; exact h.2.2.1 s t hs ht, fun k hk j => by rw [f _ _ (by unfold fr8; omega)]; exact h.2.2.2 k hk j⟩
theorem iIp1 (u : Nat) : iI ((u : Int) - 1) + 1 = nI u := by rw [nI_iI, show (1 : Int32) = iI 1 from rfl, iI_add]; congr 1; omega
theorem pre1 {n : Nat} (h : 1 ≤ n) : nI n - 1 = nI (n - 1) := by
  obtain ⟨m, rfl⟩ : ∃ m, n = m + 1 := ⟨n - 1, by omega⟩
  exact nI_pred m
set_option maxHeartbeats 4000000 in
theorem s_tex_rec (d : Nat) (a : Ab) (hw : WF a) (l : Nat) (hl : ∀ t, t < 4 → l ≤ aPr a t) (σ : tk_S) (hF : texF a σ) (Q : tk_S → Prop) : ∀ r k, k + r + 1 = gmN a → ∀ s, preG a k s → (∀ σ', Fr fr8 σ σ' → σ'.2 = σ.2 → (∀ j, j < k → σ'.1 147 j = nI (s j)) → bInv a (bef k s 4) σ' → g_X8_textured (d + 1) 183 [(0, aN 132), (1, aI (nI l)), (2, aI (iI ((k : Int) - 1))), (3, aI (nI (cosG a s k)))] σ' Q) → ∀ t u : Nat, t + u = 4 → ∀ σ', Fr fr8 σ σ' → σ'.2 = σ.2 → (∀ j, j < k → σ'.1 147 j = nI (s j)) → σ'.1 147 k = iI ((u : Int) - 1) → bInv a (bef k s u) σ' → g_X8_textured (d + 1) 183 [(0, aN 132), (1, aI (nI l)), (2, aI (nI k)), (3, aI (nI (cosG a s k + (if u = 0 then 0 else aPr a (u - 1)))))] σ' Q := by
  have hn12 := hw.1
  have hm12 := gmN_le a
  have hp9 := hw.2.2.2.2.2.2.2.2.2.1
  have hl9 : l ≤ 99 := Nat.le_trans (hl 0 (by omega)) (hp9 0 (by omega))
  intro r
  induction r with
  | zero =>
    intro k hk s hp hb t
    have hck := cosG_le hw k hp.1
    have go218 : ∀ (u : Nat) (σ1 : tk_S), u ≤ 4 → Fr fr8 σ σ1 → σ1.1 147 k = iI ((u : Int) - 1) → g_X8_textured (d + 1) 218 [(0, aN 132), (1, aI (nI l)), (2, aI (nI k)), (3, aI (nI (cosG a s k)))] σ1 Q → g_X8_textured (d + 1) 183 [(0, aN 132), (1, aI (nI l)), (2, aI (nI k)), (3, aI (nI (cosG a s k + (if u = 0 then 0 else aPr a (u - 1)))))] σ1 Q := by
      intro u σ1 hu f1 ck g
      have hF1 := hF.fr f1
      refine b_X8_textured_183 d _ _ _ σ1 Q ⟨fun q => absurd q (nI_pos (by omega)), fun _ => ⟨fun q => absurd q (by rw [hF1.1]; exact nI_nle (by omega) (by omega)), fun _ => ⟨vp_in_nI (by omega) (by omega), ?_⟩⟩⟩
      rw [nI_clamp (by omega), ck]
      by_cases e : u = 0
      · subst e
        exact ⟨fun _ => g, fun q => absurd rfl q⟩
      · rw [if_neg e, show iI ((u : Int) - 1) = nI (u - 1) by rw [nI_iI]; congr 1; omega]
        refine ⟨fun q => ?_, fun _ => ⟨vp_in_nI (by omega) (by omega), vp_in_nI (by omega) (by omega), fun z7 e7 => ?_⟩⟩
        · exfalso
          have := nI_pos (n := u - 1) (by omega)
          rw [q] at this; exact this (by decide)
        · rw [nI_clamp (by omega), hF1.2.1 _ (by omega), pk_sub (Nat.le_add_left _ _), Nat.add_sub_cancel] at e7
          subst e7
          exact g
    induction t with
    | zero =>
      intro u htu σ1 f1 g1 c1 ck bi
      have eu : u = 4 := by omega
      subst eu
      refine go218 4 σ1 (by omega) f1 ck ?_
      have hF1 := hF.fr f1
      refine b_X8_textured_218 d _ _ _ σ1 Q ⟨vp_in_nI (by omega) (by omega), vp_in_nI (by omega) (by omega), vp_in_nI (by omega) (by omega), ?_⟩
      rw [nI_clamp (by omega), rd_s, ck, iIp1]
      refine ⟨fun q => absurd rfl q, fun _ => ⟨vp_in_nI (by omega) (by omega), fun σ2 e2 => ?_⟩⟩
      rw [show nI k + (-1) = iI ((k : Int) - 1) by rw [nI_iI, show (-1 : Int32) = iI (-1) from rfl, iI_add]; congr 1]
      refine hb σ2 (f1.tr (by rw [e2]; exact (Fr.up _ _ (by unfold fr8; omega)).tr (Fr.up _ _ (by unfold fr8; omega)))) (by rw [e2]; exact g1) (fun j hj => by rw [e2, rd_o (by omega), rd_o (by omega)]; exact c1 j hj) (bi.fr (by rw [e2, rd_o (by omega), rd_o (by omega)]) (fun j => by rw [e2, rd_o (by omega), rd_o (by omega)]))
    | succ t iht =>
      intro u htu σ1 f1 g1 c1 ck bi
      refine go218 u σ1 (by omega) f1 ck ?_
      have hF1 := hF.fr f1
      have hu4 : u < 4 := by omega
      have hpu := hp9 u hu4
      refine b_X8_textured_218 d _ _ _ σ1 Q ⟨vp_in_nI (by omega) (by omega), vp_in_nI (by omega) (by omega), vp_in_nI (by omega) (by omega), ?_⟩
      rw [nI_clamp (by omega), rd_s, ck, iIp1]
      generalize e2 : tk_up σ1 147 k (nI u) = σ2
      have f2 : Fr fr8 σ σ2 := f1.tr (by rw [← e2]; exact Fr.up _ _ (by unfold fr8; omega))
      have g2 : σ2.2 = σ.2 := by rw [← e2]; exact g1
      have c2 : ∀ j, j < k → σ2.1 147 j = nI (s j) := fun j hj => by rw [← e2, rd_o (by omega)]; exact c1 j hj
      have ck2 : σ2.1 147 k = nI u := by rw [← e2, rd_s]
      have bi2 : bInv a (bef k s u) σ2 := bi.fr (by rw [← e2, rd_o (by omega)]) (fun j => by rw [← e2, rd_o (by omega)])
      have hF2 := hF.fr f2
      refine ⟨fun _ => ⟨vp_in_nI (by omega) (by omega), vp_in_nI hu4 (by omega), fun z7 e7 => ?_⟩, fun q => absurd ((nI_eq (b := 4) (by omega) (by omega)).mp q) (by omega)⟩
      rw [nI_clamp (by omega), hF2.2.1 u hu4, nI_add] at e7
      subst e7
      have again : ∀ σ3, Fr fr8 σ σ3 → σ3.2 = σ.2 → (∀ j, j < k → σ3.1 147 j = nI (s j)) → σ3.1 147 k = nI u → bInv a (bef k s (u + 1)) σ3 → g_X8_textured (d + 1) 183 [(0, aN 132), (1, aI (nI l)), (2, aI (nI k)), (3, aI (nI (cosG a s k + aPr a u)))] σ3 Q := by
        intro σ3 f3 g3 c3 ck3 b3
        have := iht (u + 1) (by omega) σ3 f3 g3 c3 (by rw [ck3, nI_iI]; congr 1; omega) b3
        rw [if_neg (by omega), Nat.add_sub_cancel] at this
        exact this
      -- nothing new is found
      have none : (∀ s', okG a s' → (∀ i, i < k → s' i = s i) → s' k = u → False) → bInv a (bef k s (u + 1)) σ2 := by
        intro hno
        refine bi2.c (fun s' hs' => ?_)
        rw [bef_nx]
        exact ⟨fun q => Or.inl q, fun q => q.resolve_right (fun z => hno s' hs' z.1 z.2)⟩
      have end364 : ∀ x4 : Int32, (x4 = 0 → bInv a (bef k s (u + 1)) σ2) → (¬ x4 = 0 → (∀ j, j < k → nbrP a (gm a k) (gm a j) → aAp a (s j) u = 1) ∧ (∀ sb, okG a sb → bef k s u sb → cosG a s k + aPr a u < cosG a sb (gmN a))) → g_X8_textured (d + 1) 364 [(0, aN 132), (1, aI (nI l)), (2, aI (nI k)), (3, aI (nI (cosG a s k + aPr a u))), (4, aI x4)] σ2 Q := by
        intro x4 h0 h1
        refine b_X8_textured_364 d _ _ _ _ σ2 Q ⟨fun q => ?_, fun q => again σ2 f2 g2 c2 ck2 (h0 q)⟩
        obtain ⟨w1, w2⟩ := h1 q
        rw [hF2.1, show nI (gmN a) - 1 = nI k by rw [show gmN a = k + 1 by omega]; exact nI_pred k]
        refine ⟨fun z => absurd rfl z, fun _ => ?_⟩
        have ok' : okG a (u1 s k u) := by
          have := preG_up hp hu4 w1
          rw [show k + 1 = gmN a by omega] at this
          exact this
        have ec : cosG a (u1 s k u) (gmN a) = cosG a s k + aPr a u := by
          rw [show gmN a = k + 1 by omega, cosG_s, u1_s, cosG_c (s' := s) (fun j hj => u1_o _ (by omega))]
        have L := up_loop (fun j => ∀ σ4, Fr fr8 σ σ4 → σ4.2 = σ.2 → σ4.1 132 21 = nI (cosG a s k + aPr a u) → (∀ i, σ4.1 147 i = σ2.1 147 i) → (∀ i, i < j → σ4.1 148 i = nI (u1 s k u i)) → g_X8_textured (d + 1) 390 [(0, aN 132), (1, aI (nI l)), (2, aI (nI k)), (3, aI (nI (cosG a s k + aPr a u))), (5, aI (nI j))] σ4 Q) (gmN a) ?_ ?_
        · exact L _ (f2.tr (Fr.up _ _ (by unfold fr8; omega))) g2 rd_s (fun i => by rw [rd_o (by omega)]) (fun i hi => by omega)
        · intro σ4 f4 g4 b4 s4 t4
          refine b_X8_textured_390 d _ _ _ _ σ4 Q ⟨fun _ => ?_, fun z => absurd (by rw [(hF.fr f4).1]; exact (le_nI (by omega) (by omega)).mpr (Nat.le_refl _)) z⟩
          refine again σ4 f4 g4 (fun j hj => by rw [s4]; exact c2 j hj) (by rw [s4]; exact ck2) (Or.inr ⟨u1 s k u, ok', ?_, by rw [b4, ec], t4, fun s' hs' hq => ?_⟩)
          · exact Or.inr ⟨fun i hi => u1_o _ (by omega), by rw [u1_s]; omega⟩
          · rw [ec]
            rcases bef_nx.mp hq with v | ⟨v1, v2⟩
            · have := w2 s' hs' v
              exact ⟨by omega, fun z => by omega⟩
            · have es : ∀ i, i < gmN a → u1 s k u i = s' i := fun i hi => by
                by_cases z : i = k
                · subst z; rw [u1_s, v2]
                · rw [u1_o _ z, v1 i (by omega)]
              rw [← ec, cosG_c es]
              exact ⟨Nat.le_refl _, fun _ => Or.inl es⟩
        · intro j hj ihj σ4 f4 g4 b4 s4 t4
          refine b_X8_textured_390 d _ _ _ _ σ4 Q ⟨fun z => absurd ((le_nI (n := gmN a) (k := j) (by omega) (by omega)).mp (by rw [(hF.fr f4).1] at z; exact z)) (by omega), fun _ => ⟨vp_in_nI (by omega) (by omega), vp_in_nI (by omega) (by omega), ?_⟩⟩
          rw [nI_clamp (by omega), nI_1]
          refine ihj _ (f4.tr (Fr.up _ _ (by unfold fr8; omega))) g4 (by rw [rd_o (by omega)]; exact b4) (fun i => by rw [rd_o (by omega)]; exact s4 i) (fun i hi => ?_)
          by_cases z : i = j
          · subst z
            rw [rd_s, s4]
            by_cases z2 : i = k
            · subst z2; rw [u1_s]; exact ck2
            · rw [u1_o _ z2]; exact c2 i (by omega)
          · rw [rd_o (by omega)]; exact t4 i (by omega)
      have loop : ∀ x4 : Int32, (x4 = 0 → bInv a (bef k s (u + 1)) σ2) → (¬ x4 = 0 → x4 = 1 ∧ ∀ sb, okG a sb → bef k s u sb → cosG a s k + aPr a u < cosG a sb (gmN a)) → g_X8_textured (d + 1) 302 [(0, aN 132), (1, aI (nI l)), (2, aI (nI k)), (3, aI (nI (cosG a s k + aPr a u))), (4, aI x4), (5, aI 0)] σ2 Q := by
        intro x4 h0 h1
        by_cases hx : x4 = 0
        · exact b_X8_textured_302 d _ _ _ _ _ σ2 Q ⟨fun _ => end364 x4 h0 (fun z => absurd hx z), fun _ => ⟨fun _ => end364 x4 h0 (fun z => absurd hx z), fun z => absurd hx z⟩⟩
        · obtain ⟨rfl, w2⟩ := h1 hx
          have L := up_loop (fun j => (∀ j', j' < j → nbrP a (gm a k) (gm a j') → aAp a (s j') u = 1) → g_X8_textured (d + 1) 302 [(0, aN 132), (1, aI (nI l)), (2, aI (nI k)), (3, aI (nI (cosG a s k + aPr a u))), (4, aI 1), (5, aI (nI j))] σ2 Q) k ?_ ?_
          · exact L (fun j' hj' => by omega)
          · intro hq
            exact b_X8_textured_302 d _ _ _ _ _ σ2 Q ⟨fun _ => end364 1 (fun z => absurd z (by decide)) (fun _ => ⟨hq, w2⟩), fun z => absurd ((le_nI (by omega) (by omega)).mpr (Nat.le_refl _)) z⟩
          · intro j hj ihj hq
            have sj := hp.1 j hj
            refine b_X8_textured_302 d _ _ _ _ _ σ2 Q ⟨fun z => absurd ((le_nI (by omega) (by omega)).mp z) (by omega), fun _ => ⟨fun z => absurd z (by decide), fun _ => ⟨vp_in_nI (by omega) (by omega), ?_⟩⟩⟩
            rw [nI_clamp (by omega), nI_clamp (by omega), bt_shr1 _ (by omega), b1n, hF2.2.2.2 k (by omega) j, c2 j hj, ck2, ix4, nI_clamp (by omega), hF2.2.2.1 _ _ sj hu4, nI_1]
            have hap := (hw.2.2.2.2.2.2.2.1 (s j) u sj hu4).1
            refine ⟨fun z => ihj (fun j' hj' hnb => ?_), fun z => ⟨vp_in_nI (by omega) (by omega), vp_in_nI (by omega) (by omega), vp_in_nI (by omega) (by omega), fun v => ?_, fun v => ihj (fun j' hj' hnb => ?_)⟩⟩
            · by_cases e : j' = j
              · subst e; exact absurd ⟨hj, hnb⟩ (pB_f.mp z)
              · exact hq j' (by omega) hnb
            · have z : pB (j < k ∧ nbrP a (gm a k) (gm a j)) = true := by
                cases e : pB (j < k ∧ nbrP a (gm a k) (gm a j))
                · exact absurd e z
                · rfl
              have v := (nI_eq (b := 0) (by omega) (by omega)).mp v
              have bad := none (fun s' hs' v1 v2 => by
                have := hs'.2 j k hj (by omega) (pB_t.mp z).2
                rw [v1 j hj, v2] at this
                omega)
              have e3 := end364 0 (fun _ => bad) (fun z => absurd rfl z)
              exact b_X8_textured_302 d _ _ _ _ _ σ2 Q ⟨fun _ => e3, fun _ => ⟨fun _ => e3, fun z => absurd rfl z⟩⟩
            · by_cases e : j' = j
              · subst e
                have : ¬ aAp a (s j') u = 0 := fun y => v (by rw [y]; rfl)
                omega
              · exact hq j' (by omega) hnb
      rcases bi2 with ⟨q1, q2⟩ | ⟨sb, q1, q2, q3, q4, q5⟩
      · rw [q1]
        exact ⟨fun _ => loop 1 (fun z => absurd z (by decide)) (fun _ => ⟨rfl, fun sb h1 h2 => absurd h2 (q2 sb h1)⟩), fun z => absurd rfl z⟩
      · have hcs := cosG_le hw (gmN a) q1.1
        rw [q3, hF2.1, show nI (gmN a) - 1 = nI k by rw [show gmN a = k + 1 by omega]; exact nI_pred k, pk_sub (Nat.le_refl k), pk_mul, nI_add, le_nI (by omega) (by rw [Nat.sub_self, Nat.mul_zero]; omega), Nat.sub_self, Nat.mul_zero, Nat.add_zero]
        refine ⟨fun z => ?_, fun _ => ⟨fun z => loop 0 (fun _ => ?_) (fun v => absurd rfl v), fun z => loop 1 (fun v => absurd v (by decide)) (fun _ => ⟨rfl, fun sb' h1 h2 => ?_⟩)⟩⟩
        · exfalso
          have := nI_pos (n := cosG a sb (gmN a)) (by omega)
          rw [z] at this; exact this (by decide)
        · refine Or.inr ⟨sb, q1, bef_nx.mpr (Or.inl q2), q3, q4, fun s' hs' hb' => ?_⟩
          rcases bef_nx.mp hb' with v | ⟨v1, v2⟩
          · exact q5 s' hs' v
          · refine ⟨?_, fun _ => bef_lex (by omega) q2 v1 v2⟩
            have ek : cosG a s' (k + 1) = cosG a s k + aPr a u := by rw [cosG_s, v2, cosG_c v1]
            rw [show gmN a = k + 1 by omega] at z ⊢
            omega
        · have := (q5 sb' h1 h2).1
          omega
  | succ r ih =>
    intro k hk s hp hb t
    have hck := cosG_le hw k hp.1
    have go218 : ∀ (u : Nat) (σ1 : tk_S), u ≤ 4 → Fr fr8 σ σ1 → σ1.1 147 k = iI ((u : Int) - 1) → g_X8_textured (d + 1) 218 [(0, aN 132), (1, aI (nI l)), (2, aI (nI k)), (3, aI (nI (cosG a s k)))] σ1 Q → g_X8_textured (d + 1) 183 [(0, aN 132), (1, aI (nI l)), (2, aI (nI k)), (3, aI (nI (cosG a s k + (if u = 0 then 0 else aPr a (u - 1)))))] σ1 Q := by
      intro u σ1 hu f1 ck g
      have hF1 := hF.fr f1
      refine b_X8_textured_183 d _ _ _ σ1 Q ⟨fun q => absurd q (nI_pos (by omega)), fun _ => ⟨fun q => absurd q (by rw [hF1.1]; exact nI_nle (by omega) (by omega)), fun _ => ⟨vp_in_nI (by omega) (by omega), ?_⟩⟩⟩
      rw [nI_clamp (by omega), ck]
      by_cases e : u = 0
      · subst e
        exact ⟨fun _ => g, fun q => absurd rfl q⟩
      · rw [if_neg e, show iI ((u : Int) - 1) = nI (u - 1) by rw [nI_iI]; congr 1; omega]
        refine ⟨fun q => ?_, fun _ => ⟨vp_in_nI (by omega) (by omega), vp_in_nI (by omega) (by omega), fun z7 e7 => ?_⟩⟩
        · exfalso
          have := nI_pos (n := u - 1) (by omega)
          rw [q] at this; exact this (by decide)
        · rw [nI_clamp (by omega), hF1.2.1 _ (by omega), pk_sub (Nat.le_add_left _ _), Nat.add_sub_cancel] at e7
          subst e7
          exact g
    induction t with
    | zero =>
      intro u htu σ1 f1 g1 c1 ck bi
      have eu : u = 4 := by omega
      subst eu
      refine go218 4 σ1 (by omega) f1 ck ?_
      have hF1 := hF.fr f1
      refine b_X8_textured_218 d _ _ _ σ1 Q ⟨vp_in_nI (by omega) (by omega), vp_in_nI (by omega) (by omega), vp_in_nI (by omega) (by omega), ?_⟩
      rw [nI_clamp (by omega), rd_s, ck, iIp1]
      refine ⟨fun q => absurd rfl q, fun _ => ⟨vp_in_nI (by omega) (by omega), fun σ2 e2 => ?_⟩⟩
      rw [show nI k + (-1) = iI ((k : Int) - 1) by rw [nI_iI, show (-1 : Int32) = iI (-1) from rfl, iI_add]; congr 1]
      refine hb σ2 (f1.tr (by rw [e2]; exact (Fr.up _ _ (by unfold fr8; omega)).tr (Fr.up _ _ (by unfold fr8; omega)))) (by rw [e2]; exact g1) (fun j hj => by rw [e2, rd_o (by omega), rd_o (by omega)]; exact c1 j hj) (bi.fr (by rw [e2, rd_o (by omega), rd_o (by omega)]) (fun j => by rw [e2, rd_o (by omega), rd_o (by omega)]))
    | succ t iht =>
      intro u htu σ1 f1 g1 c1 ck bi
      refine go218 u σ1 (by omega) f1 ck ?_
      have hF1 := hF.fr f1
      have hu4 : u < 4 := by omega
      have hpu := hp9 u hu4
      refine b_X8_textured_218 d _ _ _ σ1 Q ⟨vp_in_nI (by omega) (by omega), vp_in_nI (by omega) (by omega), vp_in_nI (by omega) (by omega), ?_⟩
      rw [nI_clamp (by omega), rd_s, ck, iIp1]
      generalize e2 : tk_up σ1 147 k (nI u) = σ2
      have f2 : Fr fr8 σ σ2 := f1.tr (by rw [← e2]; exact Fr.up _ _ (by unfold fr8; omega))
      have g2 : σ2.2 = σ.2 := by rw [← e2]; exact g1
      have c2 : ∀ j, j < k → σ2.1 147 j = nI (s j) := fun j hj => by rw [← e2, rd_o (by omega)]; exact c1 j hj
      have ck2 : σ2.1 147 k = nI u := by rw [← e2, rd_s]
      have bi2 : bInv a (bef k s u) σ2 := bi.fr (by rw [← e2, rd_o (by omega)]) (fun j => by rw [← e2, rd_o (by omega)])
      have hF2 := hF.fr f2
      refine ⟨fun _ => ⟨vp_in_nI (by omega) (by omega), vp_in_nI hu4 (by omega), fun z7 e7 => ?_⟩, fun q => absurd ((nI_eq (b := 4) (by omega) (by omega)).mp q) (by omega)⟩
      rw [nI_clamp (by omega), hF2.2.1 u hu4, nI_add] at e7
      subst e7
      have again : ∀ σ3, Fr fr8 σ σ3 → σ3.2 = σ.2 → (∀ j, j < k → σ3.1 147 j = nI (s j)) → σ3.1 147 k = nI u → bInv a (bef k s (u + 1)) σ3 → g_X8_textured (d + 1) 183 [(0, aN 132), (1, aI (nI l)), (2, aI (nI k)), (3, aI (nI (cosG a s k + aPr a u)))] σ3 Q := by
        intro σ3 f3 g3 c3 ck3 b3
        have := iht (u + 1) (by omega) σ3 f3 g3 c3 (by rw [ck3, nI_iI]; congr 1; omega) b3
        rw [if_neg (by omega), Nat.add_sub_cancel] at this
        exact this
      have none : (∀ s', okG a s' → (∀ i, i < k → s' i = s i) → s' k = u → False) → bInv a (bef k s (u + 1)) σ2 := by
        intro hno
        refine bi2.c (fun s' hs' => ?_)
        rw [bef_nx]
        exact ⟨fun q => Or.inl q, fun q => q.resolve_right (fun z => hno s' hs' z.1 z.2)⟩
      have end364 : ∀ x4 : Int32, (x4 = 0 → bInv a (bef k s (u + 1)) σ2) → (¬ x4 = 0 → ∀ j, j < k → nbrP a (gm a k) (gm a j) → aAp a (s j) u = 1) → g_X8_textured (d + 1) 364 [(0, aN 132), (1, aI (nI l)), (2, aI (nI k)), (3, aI (nI (cosG a s k + aPr a u))), (4, aI x4)] σ2 Q := by
        intro x4 h0 h1
        refine b_X8_textured_364 d _ _ _ _ σ2 Q ⟨fun q => ?_, fun q => again σ2 f2 g2 c2 ck2 (h0 q)⟩
        have w1 := h1 q
        have hp' := preG_up hp hu4 w1
        have ec : cosG a (u1 s k u) (k + 1) = cosG a s k + aPr a u := by rw [cosG_s, u1_s, cosG_c (s' := s) (fun j hj => u1_o _ (by omega))]
        rw [hF2.1, show nI (gmN a) - 1 = nI (gmN a - 1) from pre1 (by omega), nI_1, nI_clamp (by omega)]
        refine ⟨fun _ => ⟨vp_in_nI (by omega) (by omega), ?_⟩, fun z => absurd ((nI_eq (by omega) (by omega)).mp z) (by omega)⟩
        have := ih (k + 1) (by omega) (u1 s k u) hp' (fun σ4 f4 g4 c4 b4 => ?_) 4 0 rfl (tk_up σ2 147 (k + 1) (-1)) (f2.tr (Fr.up _ _ (by unfold fr8; omega))) g2 (fun j hj => ?_) rd_s ((bi2.fr (rd_o (by omega)) (fun j => rd_o (by omega))).c (fun s' _ => bef_up.symm))
        · rw [if_pos rfl, Nat.add_zero, ec] at this
          exact this
        · rw [ec, show ((k + 1 : Nat) : Int) - 1 = (k : Int) by omega, ← nI_iI]
          refine again σ4 f4 g4 (fun j hj => by rw [c4 j (by omega), u1_o _ (by omega)]) (by rw [c4 k (by omega), u1_s]) (b4.c (fun s' hs' => ?_))
          rw [bef_dn (hs'.1 (k + 1) (by omega)), u1_s]
          have : ∀ v, bef k (u1 s k u) v s' ↔ bef k s v s' := fun v => by
            constructor
            · rintro (⟨j, j1, j2, j3⟩ | ⟨j1, j2⟩)
              · exact Or.inl ⟨j, j1, fun i hi => by rw [j2 i hi, u1_o _ (by omega)], by rw [u1_o _ (by omega)] at j3; exact j3⟩
              · exact Or.inr ⟨fun i hi => by rw [j1 i hi, u1_o _ (by omega)], j2⟩
            · rintro (⟨j, j1, j2, j3⟩ | ⟨j1, j2⟩)
              · exact Or.inl ⟨j, j1, fun i hi => by rw [j2 i hi, u1_o _ (by omega)], by rw [u1_o _ (by omega)]; exact j3⟩
              · exact Or.inr ⟨fun i hi => by rw [j1 i hi, u1_o _ (by omega)], j2⟩
          exact this (u + 1)
        · by_cases z : j = k
          · subst z; rw [rd_o (by omega), u1_s]; exact ck2
          · rw [rd_o (by omega), u1_o _ z]; exact c2 j (by omega)
      have loop : ∀ x4 : Int32, (x4 = 0 → bInv a (bef k s (u + 1)) σ2) → (¬ x4 = 0 → x4 = 1) → g_X8_textured (d + 1) 302 [(0, aN 132), (1, aI (nI l)), (2, aI (nI k)), (3, aI (nI (cosG a s k + aPr a u))), (4, aI x4), (5, aI 0)] σ2 Q := by
        intro x4 h0 h1
        by_cases hx : x4 = 0
        · exact b_X8_textured_302 d _ _ _ _ _ σ2 Q ⟨fun _ => end364 x4 h0 (fun z => absurd hx z), fun _ => ⟨fun _ => end364 x4 h0 (fun z => absurd hx z), fun z => absurd hx z⟩⟩
        · have := h1 hx
          subst this
          have L := up_loop (fun j => (∀ j', j' < j → nbrP a (gm a k) (gm a j') → aAp a (s j') u = 1) → g_X8_textured (d + 1) 302 [(0, aN 132), (1, aI (nI l)), (2, aI (nI k)), (3, aI (nI (cosG a s k + aPr a u))), (4, aI 1), (5, aI (nI j))] σ2 Q) k ?_ ?_
          · exact L (fun j' hj' => by omega)
          · intro hq
            exact b_X8_textured_302 d _ _ _ _ _ σ2 Q ⟨fun _ => end364 1 (fun z => absurd z (by decide)) (fun _ => hq), fun z => absurd ((le_nI (by omega) (by omega)).mpr (Nat.le_refl _)) z⟩
          · intro j hj ihj hq
            have sj := hp.1 j hj
            refine b_X8_textured_302 d _ _ _ _ _ σ2 Q ⟨fun z => absurd ((le_nI (by omega) (by omega)).mp z) (by omega), fun _ => ⟨fun z => absurd z (by decide), fun _ => ⟨vp_in_nI (by omega) (by omega), ?_⟩⟩⟩
            rw [nI_clamp (by omega), nI_clamp (by omega), bt_shr1 _ (by omega), b1n, hF2.2.2.2 k (by omega) j, c2 j hj, ck2, ix4, nI_clamp (by omega), hF2.2.2.1 _ _ sj hu4, nI_1]
            have hap := (hw.2.2.2.2.2.2.2.1 (s j) u sj hu4).1
            refine ⟨fun z => ihj (fun j' hj' hnb => ?_), fun z => ⟨vp_in_nI (by omega) (by omega), vp_in_nI (by omega) (by omega), vp_in_nI (by omega) (by omega), fun v => ?_, fun v => ihj (fun j' hj' hnb => ?_)⟩⟩
            · by_cases e : j' = j
              · subst e; exact absurd ⟨hj, hnb⟩ (pB_f.mp z)
              · exact hq j' (by omega) hnb
            · have z : pB (j < k ∧ nbrP a (gm a k) (gm a j)) = true := by
                cases e : pB (j < k ∧ nbrP a (gm a k) (gm a j))
                · exact absurd e z
                · rfl
              have v := (nI_eq (b := 0) (by omega) (by omega)).mp v
              have bad := none (fun s' hs' v1 v2 => by
                have := hs'.2 j k hj (by omega) (pB_t.mp z).2
                rw [v1 j hj, v2] at this
                omega)
              have e3 := end364 0 (fun _ => bad) (fun z => absurd rfl z)
              exact b_X8_textured_302 d _ _ _ _ _ σ2 Q ⟨fun _ => e3, fun _ => ⟨fun _ => e3, fun z => absurd rfl z⟩⟩
            · by_cases e : j' = j
              · subst e
                have : ¬ aAp a (s j') u = 0 := fun y => v (by rw [y]; rfl)
                omega
              · exact hq j' (by omega) hnb
      rcases bi2 with ⟨q1, q2⟩ | ⟨sb, q1, q2, q3, q4, q5⟩
      · rw [q1]
        exact ⟨fun _ => loop 1 (fun z => absurd z (by decide)) (fun _ => rfl), fun z => absurd rfl z⟩
      · have hcs := cosG_le hw (gmN a) q1.1
        have hll : l * (gmN a - 1 - k) ≤ 99 * 12 := Nat.mul_le_mul hl9 (by omega)
        rw [q3, hF2.1, show nI (gmN a) - 1 = nI (gmN a - 1) from pre1 (by omega), pk_sub (show k ≤ gmN a - 1 by omega), pk_mul, nI_add, le_nI (by omega) (by omega)]
        refine ⟨fun z => ?_, fun _ => ⟨fun z => loop 0 (fun _ => ?_) (fun v => absurd rfl v), fun z => loop 1 (fun v => absurd v (by decide)) (fun _ => rfl)⟩⟩
        · exfalso
          have := nI_pos (n := cosG a sb (gmN a)) (by omega)
          rw [z] at this; exact this (by decide)
        · refine Or.inr ⟨sb, q1, bef_nx.mpr (Or.inl q2), q3, q4, fun s' hs' hb' => ?_⟩
          rcases bef_nx.mp hb' with v | ⟨v1, v2⟩
          · exact q5 s' hs' v
          · refine ⟨?_, fun _ => bef_lex (by omega) q2 v1 v2⟩
            have ek : cosG a s' (k + 1) = cosG a s k + aPr a u := by rw [cosG_s, v2, cosG_c v1]
            have lo := cosG_low (a := a) (s := s') hl (k := k + 1) (gmN a) (by omega) hs'.1
            rw [ek, show gmN a - (k + 1) = gmN a - 1 - k by omega] at lo
            omega
