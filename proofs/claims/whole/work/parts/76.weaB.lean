/-! TEXTURES: who clashes, who hangs together, what a gift leaves open -/
set_option maxHeartbeats 1000000 in
theorem s_clashing (d : Nat) {a : Ab} (hw : WF a) {C B M : Nat → Nat} {lv : Nat} (hlv : lv < 13) (x : Int32) (hx : subs a x) (σ : tk_S) (hv : wv a C B σ) (hM : opn σ lv x M) (h1 : ∀ g, bt x g = true → 1 ≤ M g) (Q : Int32 → tk_S → Prop) (hno : ∀ σ', Fr (fun k _ => k = 36) σ σ' → σ'.2 = σ.2 → (∀ g h, bt x g = true → bt x h = true → nbrP a g h → aAp a (C (M g)) (C (M h)) = 1) → Q (-1) σ') (hg : ∀ σ' g, Fr (fun k _ => k = 36) σ σ' → σ'.2 = σ.2 → bt x g = true → Q (nI g) σ') : p_X6_clashing (d + 2) [aN 30, aI x, aN (38 + lv)] σ Q := by
  have hn := hw.1
  refine e_X6_clashing (d + 2) _ _ (b_X6_clashing_0 (d + 1) _ _ (sh_open lv hlv) σ Q ?_)
  refine s_takers d hw hlv x hx σ hv hM h1 _ (fun σ1 f1 g1 t1 => ?_)
  have hv1 : wv a C B σ1 := hv.fr (lv := lv) (f1.wk (fun k j q => Or.inl q))
  have hM1 : opn σ1 lv x M := hM.fr (f1.wk (fun k j q => Or.inl q))
  have hc : ∀ g, bt x g = true → isChp a (M g) (C (M g)) := fun g h => (hv.2.2.2.2.2 (M g) (h1 g h) (hM g h).2).2
  have L := up_loop (fun g => ∀ x3 x4 : Int32, ((x3 = -1 ∧ x4 = -1 ∧ ∀ g' h, g' < g → bt x g' = true → bt x h = true → nbrP a g' h → aAp a (C (M g')) (C (M h)) = 1) ∨ ∃ g', x3 = nI g' ∧ bt x g' = true) → g_X6_clashing (d + 2) 14 [(0, aN 30), (1, aI x), (2, aN (38 + lv)), (3, aI x3), (4, aI x4), (5, aI (nI g))] σ1 Q) 12 ?_ ?_
  · exact L (-1) (-1) (Or.inl ⟨rfl, rfl, fun g' h hg' => by omega⟩)
  · intro x3 x4 hq
    refine b_X6_clashing_14 (d + 1) _ _ (sh_open lv hlv) _ _ _ σ1 Q ⟨fun _ => ?_, fun c => absurd (by decide) c⟩
    rcases hq with ⟨rfl, -, q⟩ | ⟨g', rfl, q⟩
    · exact hno σ1 f1 g1 (fun g h hg' hh hnb => q g h (by have := (hx g hg').1; omega) hg' hh hnb)
    · exact hg σ1 g' f1 g1 q
  · intro g hg12 ih x3 x4 hq
    have stay : (bt x g = true → ∀ h, bt x h = true → nbrP a g h → aAp a (C (M g)) (C (M h)) = 1) → g_X6_clashing (d + 2) 14 [(0, aN 30), (1, aI x), (2, aN (38 + lv)), (3, aI x3), (4, aI x4), (5, aI (nI (g + 1)))] σ1 Q := by
      intro hz
      refine ih x3 x4 ?_
      rcases hq with ⟨q1, q2, q⟩ | q
      · refine Or.inl ⟨q1, q2, fun g' h hg' b1 b2 hnb => ?_⟩
        by_cases z : g' = g
        · subst z; exact hz b1 h b2 hnb
        · exact q g' h (by omega) b1 b2 hnb
      · exact Or.inr q
    refine b_X6_clashing_14 (d + 1) _ _ (sh_open lv hlv) _ _ _ σ1 Q ⟨fun c => absurd ((le_nI (n := 12) (by omega) (by omega)).mp c) (by omega), fun _ => ?_⟩
    refine s_X7_has (d + 1) _ (by omega) σ1 _ ?_
    rw [nI_1, nI_clamp (by omega)]
    refine ⟨fun c => stay (fun z => by rw [b2i_0.mp c] at z; cases z), fun c => ⟨vp_in_nI hg12 (by omega), vp_in_nI hg12 (by omega), ?_⟩⟩
    have c := b2i_n.mp c
    obtain ⟨m1, m2⟩ := hM1 g c
    obtain ⟨k1, k2⟩ := hv1.2.2.2.2.2 (M g) (h1 g c) m2
    rw [m1, nI_clamp (by omega), k1]
    refine ⟨vp_in_nI m2 (by omega), ?_⟩
    refine s_clashWith d x σ1 hv1 (fun g h => (hc g h).1) t1 k2.1 _ (fun U hU => ?_)
    obtain ⟨x1, x2⟩ := hx g c
    have nb := hv1.2.2.1 g x1 x2
    refine ⟨fun e => stay (fun _ h hh hnb => ?_), fun e => ⟨vp_in_nI hg12 (by omega), ?_⟩⟩
    · apply Classical.byContradiction
      intro z
      refine absurd e (and_nz.mpr ⟨h, by have := (hx h hh).1; omega, ?_, ?_⟩)
      · rw [nb]; exact pB_t.mpr ⟨(hx h hh).1, hnb⟩
      · rw [hU]; exact pB_t.mpr ⟨hh, z⟩
    · rw [m1]
      refine s_bitN (d + 1) (M g) (by omega) σ1 _ (fun z17 e17 => ⟨vp_in_nI hg12 (by omega), ?_⟩)
      refine s_bitCount (d + 1) _ (fun i hi => by rw [b_and, nb i, pB_f.mpr (fun q => by omega)]; rfl) σ1 _ (fun z22 e22 => ?_)
      have c4 : cnt (fun i => (M g).testBit i) 24 ≤ 4 := by
        have e4 : cnt (fun i => (M g).testBit i) 24 = cnt (fun i => (M g).testBit i) 4 := cnt_up _ (by omega) (fun i h1 _ => Nat.testBit_lt_two_pow (Nat.lt_of_lt_of_le m2 (show 2 ^ 4 ≤ 2 ^ i from Nat.pow_le_pow_right (by omega) h1)))
        rw [e4]
        exact cnt_n _ 4
      have c24 := cnt_n (bt (σ1.1 33 g &&& x)) 24
      rw [show (4 : Int32) = nI 4 from rfl, pk_sub c4] at e17
      rw [e17, show (12 : Int32) = nI 12 from rfl, pk_mul, nI_add] at e22
      have hz : (4 - cnt (fun i => (M g).testBit i) 24) * 12 ≤ 48 := by
        have : 4 - cnt (fun i => (M g).testBit i) 24 ≤ 4 := by omega
        omega
      refine ⟨fun c2 => ?_, fun _ => ih (nI g) z22 (Or.inr ⟨g, rfl, c⟩)⟩
      refine ih x3 x4 ?_
      rcases hq with ⟨q1, q2, q⟩ | q
      · exfalso
        rw [e22, q2] at c2
        have hp := nI_pos (n := (4 - cnt (fun i => (M g).testBit i) 24) * 12 + cnt (bt (σ1.1 33 g &&& x)) 24) (by omega)
        rw [Int32.lt_iff_toInt_lt] at hp
        rw [Int32.le_iff_toInt_le] at c2
        rw [show (-1 : Int32).toInt = -1 from by decide] at c2
        rw [Int32.toInt_zero] at hp
        omega
      · exact Or.inr q
/-- those that hang together with g within the set -/
def grpOK (a : Ab) (x y : Int32) (g : Nat) : Prop := bt y g = true ∧ (∀ i, bt y i = true → bt x i = true) ∧ ∀ i j, bt y i = true → bt x j = true → nbrP a i j → bt y j = true
theorem cnt_ss {p q : Nat → Bool} {n : Nat} (h : ∀ i, i < n → p i = true → q i = true) : cnt p n ≤ cnt q n := by
  induction n with
  | zero => exact Nat.le_refl _
  | succ n ih =>
    have := ih (fun i hi => h i (by omega))
    show cnt p n + (if p n then 1 else 0) ≤ cnt q n + (if q n then 1 else 0)
    cases e : p n
    · simp; omega
    · rw [h n (by omega) e]; simp; omega
theorem cnt_sl {p q : Nat → Bool} {n k : Nat} (h : ∀ i, i < n → p i = true → q i = true) (hk : k < n) (h1 : p k = false) (h2 : q k = true) : cnt p n < cnt q n := by
  rw [cnt_wout q k h2 n hk]
  have := cnt_ss (p := p) (q := wout q k) (n := n) (fun i hi hp => by
    unfold wout
    rw [h i hi hp, Bool.true_and]
    exact decide_eq_true (fun z => by rw [z, h1] at hp; cases hp))
  omega
set_option maxHeartbeats 1000000 in
theorem s_groupOf (d : Nat) {a : Ab} (hw : WF a) {C B : Nat → Nat} (x : Int32) (hx : subs a x) (σ : tk_S) (hv : wv a C B σ) (g : Nat) (hg : bt x g = true) (Q : Int32 → tk_S → Prop) (h : ∀ y, grpOK a x y g → Q y σ) : p_X6_groupOf (d + 1) [aN 30, aI (nI g), aI x] σ Q := by
  have hn := hw.1
  have hg12 : g < 12 := by have := (hx g hg).1; omega
  refine e_X6_groupOf (d + 1) _ _ (b_X6_groupOf_0 d _ _ σ Q (fun z1 e1 => ?_))
  have b1 : ∀ i, bt z1 i = decide (i = g) := fun i => by rw [e1, bt_1 (by omega)]
  have L := up_loop (fun r => ∀ y before : Int32, bt y g = true → (∀ i, bt y i = true → bt x i = true) → ((y = before ∧ ∀ i j, bt y i = true → bt x j = true → nbrP a i j → bt y j = true) ∨ (y ≠ before ∧ r < cnt (bt y) 12)) → g_X6_groupOf (d + 1) 10 [(0, aN 30), (2, aI x), (3, aI y), (4, aI before), (5, aI (nI r))] σ Q) 12 ?_ ?_
  · refine L z1 0 (by rw [b1]; exact decide_eq_true rfl) (fun i hi => by rw [b1] at hi; rw [of_decide_eq_true hi]; exact hg) (Or.inr ⟨fun z => ?_, ?_⟩)
    · have := b1 g
      rw [z, b_0] at this
      simp at this
    · have := cnt_lt (p := bt z1) (m := g) (n := 12) hg12 (by rw [b1]; exact decide_eq_true rfl)
      omega
  · intro y before y1 y2 y3
    have fin : y ≠ before ∧ 12 < cnt (bt y) 12 → False := fun q => by have := cnt_n (bt y) 12; omega
    refine b_X6_groupOf_10 d _ _ _ _ σ Q ⟨fun _ => ?_, fun c => absurd (by decide) c⟩
    rcases y3 with ⟨q1, q2⟩ | q
    · exact h y ⟨y1, y2, q2⟩
    · exact (fin q).elim
  · intro r hr ih y before y1 y2 y3
    refine b_X6_groupOf_10 d _ _ _ _ σ Q ⟨fun c => absurd ((le_nI (n := 12) (by omega) (by omega)).mp c) (by omega), fun _ => ⟨fun c => ?_, fun c => ?_⟩⟩
    · rcases y3 with ⟨q1, q2⟩ | q
      · exact h y ⟨y1, y2, q2⟩
      · exact absurd c q.1
    · have hr1 : r < cnt (bt y) 12 := by
        rcases y3 with ⟨q1, q2⟩ | q
        · exact absurd q1 c
        · exact q.2
      have L2 := up_loop (fun i => ∀ z : Int32, (∀ j, bt y j = true → bt z j = true) → (∀ j, bt z j = true → bt x j = true) → (∀ i' j, i' < i → bt y i' = true → bt x j = true → nbrP a i' j → bt z j = true) → g_X6_groupOf (d + 1) 29 [(0, aN 30), (2, aI x), (3, aI z), (4, aI y), (5, aI (nI r)), (6, aI (nI i))] σ Q) 12 ?_ ?_
      · exact L2 y (fun _ q => q) y2 (fun i' j hi' => by omega)
      · intro z z1 z2 z3
        refine b_X6_groupOf_29 d _ _ _ _ _ σ Q ⟨fun _ => ?_, fun c => absurd (by decide) c⟩
        rw [nI_1]
        refine ih z y (z1 g y1) z2 ?_
        by_cases e : z = y
        · subst e
          exact Or.inl ⟨rfl, fun i j b1 b2 hnb => z3 i j (by have := (hx i (y2 i b1)).1; omega) b1 b2 hnb⟩
        · refine Or.inr ⟨e, ?_⟩
          have : ∃ k, k < 32 ∧ bt y k = false ∧ bt z k = true := by
            apply Classical.byContradiction
            intro no
            apply e
            apply b_ext
            intro k hk
            cases e1 : bt y k
            · cases e2 : bt z k
              · rfl
              · exact absurd ⟨k, hk, e1, e2⟩ no
            · exact z1 k e1
          obtain ⟨k, k1, k2, k3⟩ := this
          have := cnt_sl (p := bt y) (q := bt z) (n := 12) (k := k) (fun i _ => z1 i) (by have := (hx k (z2 k k3)).1; omega) k2 k3
          omega
      · intro i hi ihi z z1 z2 z3
        refine b_X6_groupOf_29 d _ _ _ _ _ σ Q ⟨fun c => absurd ((le_nI (n := 12) (by omega) (by omega)).mp c) (by omega), fun _ => ?_⟩
        refine s_X7_has d _ (by omega) σ _ ?_
        rw [nI_1, nI_clamp (by omega)]
        refine ⟨fun c z6 e6 => ?_, fun c => ⟨vp_in_nI hi (by omega), fun z8 e8 => ?_⟩⟩
        · have c := b2i_0.mp c
          have e6 : z6 = z := b_ext (fun j _ => by rw [e6, b_or, b_0, Bool.or_false])
          subst e6
          refine ihi z6 z1 z2 (fun i' j hi' b1 b2 hnb => ?_)
          by_cases v : i' = i
          · subst v; rw [z1 i' b1] at c; cases c
          · exact z3 i' j (by omega) b1 b2 hnb
        · have c := b2i_n.mp c
          obtain ⟨x1, x2⟩ := hx i (z2 i c)
          have nb := hv.2.2.1 i x1 x2
          have b8 : ∀ j, bt z8 j = (bt z j || (bt (σ.1 33 i) j && bt x j)) := fun j => by rw [e8, b_or, b_and]
          refine ihi z8 (fun j hj => by rw [b8, z1 j hj]; rfl) (fun j hj => ?_) (fun i' j hi' b1 b2 hnb => ?_)
          · rw [b8, Bool.or_eq_true, Bool.and_eq_true] at hj
            rcases hj with q | q
            · exact z2 j q
            · exact q.2
          · rw [b8]
            by_cases v : i' = i
            · subst v
              rw [nb j, pB_t.mpr ⟨(hx j b2).1, hnb⟩, b2]; simp
            · rw [z3 i' j (by omega) b1 b2 hnb]; rfl
set_option maxHeartbeats 1000000 in
theorem s_give (d : Nat) {a : Ab} (hw : WF a) {C B M : Nat → Nat} {lv : Nat} (hlv : lv < 12) (y : Int32) (hy : subs a y) (σ : tk_S) (hv : wv a C B σ) (hM : opn σ lv y M) {g t : Nat} (hg : bt y g = true) (ht : t < 4) (Q : tk_S → Prop) (h : ∀ σ' M', Fr (fun k _ => k = 39 + lv) σ σ' → σ'.2 = σ.2 → opn σ' (lv + 1) y M' → (∀ i, bt y i = true → ∀ s, s < 4 → (M' i).testBit s = ((M i).testBit s && pB (nbrP a g i → aAp a t s = 1))) → Q σ') : p_X6_give (d + 1) [aN 30, aI (nI g), aI (nI t), aI y, aI (nI lv)] σ Q := by
  have hn := hw.1
  obtain ⟨g1, g2⟩ := hy g hg
  have nb := hv.2.2.1 g g1 g2
  refine e_X6_give (d + 1) _ _ _ _ (b_X6_give_0 d _ _ _ _ σ Q ?_)
  have L := up_loop (fun i => ∀ (σ1 : tk_S) (M' : Nat → Nat), Fr (fun k _ => k = 39 + lv) σ σ1 → σ1.2 = σ.2 → (∀ j, j < i → bt y j = true → (σ1.1 (38 + (lv + 1)) j = nI (M' j) ∧ M' j < 16) ∧ ∀ s, s < 4 → (M' j).testBit s = ((M j).testBit s && pB (nbrP a g j → aAp a t s = 1))) → g_X6_give (d + 1) 3 [(0, aN 30), (1, aI (nI g)), (2, aI (nI t)), (3, aI y), (4, aI (nI lv)), (5, aI (nI i))] σ1 Q) 12 ?_ ?_
  · exact L σ M (Fr.rf σ) rfl (fun j hj => by omega)
  · intro σ1 M' f1 e1 c1
    refine b_X6_give_3 d _ _ _ _ _ σ1 Q ⟨fun _ => h σ1 M' f1 e1 (fun j hj => (c1 j (by have := (hy j hj).1; omega) hj).1) (fun j hj => (c1 j (by have := (hy j hj).1; omega) hj).2), fun c => absurd (by decide) c⟩
  · intro i hi ih σ1 M' f1 e1 c1
    have hM1 : ∀ j, bt y j = true → σ1.1 (38 + lv) j = nI (M j) ∧ M j < 16 := fun j hj => by rw [f1 _ _ (by omega)]; exact hM j hj
    refine b_X6_give_3 d _ _ _ _ _ σ1 Q ⟨fun c => absurd ((le_nI (n := 12) (by omega) (by omega)).mp c) (by omega), fun _ => ?_⟩
    refine s_X7_has d _ (by omega) σ1 _ ?_
    rw [nI_1, nI_1]
    refine ⟨fun c => ih σ1 M' f1 e1 (fun j hj hb => ?_), fun c => ⟨vp_in_nI (by omega) (by omega), ?_⟩⟩
    · by_cases z : j = i
      · subst z; rw [b2i_0.mp c] at hb; cases hb
      · exact c1 j (by omega) hb
    have c := b2i_n.mp c
    obtain ⟨m1, m2⟩ := hM1 i c
    rw [nI_clamp (by omega)]
    refine s_X7_has d _ (by omega) σ1 _ ?_
    rw [f1 33 g (by omega), nb i, nI_clamp (by omega), nI_clamp (by omega), nI_clamp (by omega), nI_clamp (by omega), show 37 + 1 + 1 * (lv + 1) = 38 + (lv + 1) by omega, show 37 + 1 + 1 * lv = 38 + lv by omega, m1]
    have put : ∀ (v : Int32) (m : Nat), v = nI m → m < 16 → (∀ s, s < 4 → m.testBit s = ((M i).testBit s && pB (nbrP a g i → aAp a t s = 1))) → g_X6_give (d + 1) 3 [(0, aN 30), (1, aI (nI g)), (2, aI (nI t)), (3, aI y), (4, aI (nI lv)), (5, aI (nI (i + 1)))] (tk_up σ1 (38 + (lv + 1)) i v) Q := by
      intro v m ev hm hb
      refine ih _ (u1 M' i m) (f1.tr (Fr.up _ _ (by omega))) e1 (fun j hj hbj => ?_)
      by_cases z : j = i
      · subst z
        rw [rd_s, u1_s]
        exact ⟨⟨ev, hm⟩, hb⟩
      · rw [rd_o (by omega), u1_o _ z]
        exact c1 j (by omega) hbj
    refine ⟨vp_in_nI (by omega) (by omega), fun c2 => ⟨vp_in_nI (by omega) (by omega), vp_in_nI (by omega) (by omega), vp_in_nI (by omega) (by omega), put _ (M i) rfl m2 (fun s hs => ?_)⟩, fun c2 => ⟨vp_in_nI (by omega) (by omega), vp_in_nI (by omega) (by omega), vp_in_nI ht (by omega), vp_in_nI (by omega) (by omega), ?_⟩⟩
    · have c2 := pB_f.mp (b2i_0.mp c2)
      rw [pB_t.mpr (fun q => absurd ⟨(hy i c).1, q⟩ c2), Bool.and_true]
    · have c2 := pB_t.mp (b2i_n.mp c2)
      have ba : ∀ s, s < 32 → bt (nI (M i) &&& σ1.1 31 t) s = ((M i).testBit s && decide (s < 4 ∧ aAp a t s = 1)) := fun s hs => by rw [b_and, bt_nI _ hs, f1 31 t (by omega), hv.1 t s ht]
      obtain ⟨N, n1, n2, n3⟩ := row_nat (x := nI (M i) &&& σ1.1 31 t) (fun s hs => by
        by_cases h32 : s < 32
        · rw [ba s h32, decide_eq_false (by omega), Bool.and_false]
        · exact b_big (by omega))
      refine put _ N n2 (Nat.lt_pow_two_of_testBit N (n := 4) (fun s hs => ?_)) (fun s hs => ?_)
      · by_cases h32 : s < 32
        · rw [n3 s h32, ba s h32, decide_eq_false (by omega), Bool.and_false]
        · exact Nat.testBit_lt_two_pow (Nat.lt_of_lt_of_le n1 (show 2 ^ 24 ≤ 2 ^ s from Nat.pow_le_pow_right (by omega) (by omega)))
      · rw [n3 s (by omega), ba s (by omega)]
        congr 1
        apply Bool.eq_iff_iff.mpr
        rw [decide_eq_true_iff, pB_t]
        exact ⟨fun q _ => q.2, fun q => ⟨hs, q c2.2⟩⟩
