/-! TEXTURES: the class' search -/
theorem sumB_one (g : Nat) (f : Nat → Nat) : ∀ n, sumB (fun i => decide (i = g)) f n = if g < n then f g else 0 := by
  intro n
  induction n with
  | zero => rfl
  | succ n ih =>
    show sumB (fun i => decide (i = g)) f n + (if decide (n = g) then f n else 0) = _
    rw [ih]
    by_cases e : n = g
    · subst e; simp
    · have e0 : (if decide (n = g) = true then f n else 0) = 0 := by simp [e]
      rw [e0]
      by_cases e2 : g < n
      · rw [if_pos e2, if_pos (show g < n + 1 by omega)]; rfl
      · rw [if_neg e2, if_neg (show ¬ g < n + 1 by omega)]
def LB (a : Ab) (C B : Nat → Nat) (c : Nat) : Prop := ∀ (d lv : Nat) (x : Int32) (M : Nat → Nat) (L : Int) (σ : tk_S) (Q : Int64 → tk_S → Prop), wv a C B σ → subs a x → cnt (bt x) 12 ≤ c → lv + c ≤ 12 → opn σ lv x M → -4294967296 ≤ L → L ≤ 1152921504606846976 → (∀ σ' r, Fr (frW lv) σ σ' → σ'.2 = σ.2 → minW a (bt x) M L r → Q r σ') → p_X6_leastBelow (d + 2 * c + 4) [aN 30, aL (iL L), aI x, aI (nI lv)] σ Q
def TE (a : Ab) (C B : Nat → Nat) (c : Nat) : Prop := ∀ (d lv : Nat) (y : Int32) (g : Nat) (M : Nat → Nat) (L : Int) (σ : tk_S) (Q : Int64 → tk_S → Prop), wv a C B σ → subs a y → bt y g = true → cnt (bt y) 12 ≤ c → lv + c ≤ 12 → opn σ lv y M → 0 < L → L ≤ 1152921504606846976 → (∀ σ' r, Fr (frW lv) σ σ' → σ'.2 = σ.2 → minW a (bt y) M L r → Q r σ') → p_X6_tryEach (d + 2 * c + 3) [aN 30, aL (iL L), aI (nI g), aI y, aI (nI lv)] σ Q
/-- with g's texture given the rest is a smaller search -/
theorem give_dn {a : Ab} {y y' : Int32} {g t0 : Nat} {M M' t : Nat → Nat} (hg12 : g < 12) (hy : bt y g = true) (hb : ∀ i, bt y' i = (bt y i && decide (i ≠ g))) (hM : ∀ i, bt y i = true → ∀ s, s < 4 → (M' i).testBit s = ((M i).testBit s && pB (nbrP a g i → aAp a t0 s = 1))) (h : asg a (bt y) M t) (e : t g = t0) : asg a (bt y') M' t ∧ wt a (bt y) t = wG a g t0 + wt a (bt y') t := by
  have sb : ∀ i, bt y' i = true → bt y i = true ∧ i ≠ g := fun i hi => by
    rw [hb, Bool.and_eq_true] at hi
    exact ⟨hi.1, of_decide_eq_true hi.2⟩
  refine ⟨⟨fun i hi => ?_, fun i k hi hk hn => h.2 i k (sb i hi).1 (sb k hk).1 hn⟩, ?_⟩
  · obtain ⟨q1, q2⟩ := h.1 i (sb i hi).1
    refine ⟨q1, ?_⟩
    rw [hM i (sb i hi).1 _ q1, q2, Bool.true_and]
    exact pB_t.mpr (fun hn => by rw [← e]; exact h.2 g i hy (sb i hi).1 hn)
  · rw [wt_split (A := bt y) (B := fun i => decide (i = g)) (R := bt y') (fun i => ?_) (fun i hi => ?_)]
    · congr 1
      show sumB (fun i => decide (i = g)) _ 12 = _
      rw [sumB_one, if_pos hg12, e]
    · rw [hb]
      by_cases z : i = g
      · subst z; rw [hy]; simp
      · simp [z]
    · rw [hb, of_decide_eq_true hi]; simp
theorem give_up {a : Ab} (hw : WF a) {y y' : Int32} {g t0 : Nat} {M M' t : Nat → Nat} (hs : subs a y) (ht0 : t0 < 4) (hy : bt y g = true) (ho : (M g).testBit t0 = true) (hb : ∀ i, bt y' i = (bt y i && decide (i ≠ g))) (hM : ∀ i, bt y i = true → ∀ s, s < 4 → (M' i).testBit s = ((M i).testBit s && pB (nbrP a g i → aAp a t0 s = 1))) (h : asg a (bt y') M' t) : asg a (bt y) M (u1 t g t0) ∧ wt a (bt y) (u1 t g t0) = wG a g t0 + wt a (bt y') t := by
  have hn := hw.1
  have up : ∀ i, bt y i = true → i ≠ g → bt y' i = true := fun i hi hne => by rw [hb, hi, Bool.true_and]; exact decide_eq_true hne
  have key : ∀ i, bt y i = true → i ≠ g → t i < 4 ∧ (M i).testBit (t i) = true ∧ (nbrP a g i → aAp a t0 (t i) = 1) := fun i hi hne => by
    obtain ⟨q1, q2⟩ := h.1 i (up i hi hne)
    rw [hM i hi _ q1, Bool.and_eq_true, pB_t] at q2
    exact ⟨q1, q2.1, q2.2⟩
  refine ⟨⟨fun i hi => ?_, fun i k hi hk hnb => ?_⟩, ?_⟩
  · by_cases z : i = g
    · subst z; rw [u1_s]; exact ⟨ht0, ho⟩
    · rw [u1_o _ z]; exact ⟨(key i hi z).1, (key i hi z).2.1⟩
  · have hne : i ≠ k := hnb.1
    by_cases z : i = g
    · subst z
      rw [u1_s, u1_o _ (fun q => hne q.symm)]; exact (key k hk (fun q => hne q.symm)).2.2 hnb
    · by_cases z2 : k = g
      · subst z2
        rw [u1_s, u1_o _ z]
        have q := key i hi z
        rw [(hw.2.2.2.2.2.2.2.1 (t i) t0 q.1 ht0).2]
        exact q.2.2 (nbr_sym hnb)
      · rw [u1_o _ z, u1_o _ z2]; exact h.2 i k (up i hi z) (up k hk z2) hnb
  · rw [wt_split (A := bt y) (B := fun i => decide (i = g)) (R := bt y') (fun i => ?_) (fun i hi => ?_)]
    · have e1 : wt a (fun i => decide (i = g)) (u1 t g t0) = wG a g t0 := by
        show sumB (fun i => decide (i = g)) _ 12 = _
        rw [sumB_one, if_pos (by have := (hs g hy).1; omega), u1_s]
      have e2 : wt a (bt y') (u1 t g t0) = wt a (bt y') t := sumB_cg (fun i _ hp => by
        rw [hb, Bool.and_eq_true] at hp
        show wG a i (u1 t g t0 i) = wG a i (t i)
        rw [u1_o _ (of_decide_eq_true hp.2)])
      rw [e1, e2]
    · rw [hb]
      by_cases z : i = g
      · subst z; rw [hy]; simp
      · simp [z]
    · rw [hb, of_decide_eq_true hi]; simp
set_option maxHeartbeats 4000000 in
theorem te_of {a : Ab} (hw : WF a) {C B : Nat → Nat} {c : Nat} (hl : LB a C B c) : TE a C B (c + 1) := by
  intro d lv y g M L σ Q hv hy hg hc hlv hM hL0 hL h
  have hn := hw.1
  have hg12 : g < 12 := by have := (hy g hg).1; omega
  rw [show d + 2 * (c + 1) + 3 = d + 2 * c + 5 by omega]
  refine e_X6_tryEach (d + 2 * c + 5) _ _ _ _ (b_X6_tryEach_0 (d + 2 * c + 4) _ _ _ _ σ Q ⟨fun _ => ?_, fun q => absurd ((lt_nI (k := 12) (by omega) (by omega)).mpr (by omega)) q⟩)
  have Lp := up_loop (fun k => ∀ (σ1 : tk_S) (x6 : Int64) (x8 : Int32), Fr (frW lv) σ σ1 → σ1.2 = σ.2 → ((x6 = iL L ∧ x8 = 0 ∧ ∀ t, asg a (bt y) M t → (∃ j, j < k ∧ B j = t g) → L ≤ (wt a (bt y) t : Int)) ∨ (x8 = 1 ∧ ∃ t, asg a (bt y) M t ∧ (wt a (bt y) t : Int) < L ∧ x6 = lN (wt a (bt y) t) ∧ ∀ t', asg a (bt y) M t' → (∃ j, j < k ∧ B j = t' g) → wt a (bt y) t ≤ wt a (bt y) t')) → g_X6_tryEach (d + 2 * c + 5) 20 [(0, aN 30), (3, aI (nI g)), (4, aI y), (5, aI (nI lv)), (6, aL x6), (8, aI x8), (9, aI (nI k))] σ1 Q) 4 ?_ ?_
  · exact Lp σ (iL L) 0 (Fr.rf σ) rfl (Or.inl ⟨rfl, rfl, fun t _ ⟨j, hj, _⟩ => by omega⟩)
  · intro σ1 x6 x8 f1 g1 hq
    refine b_X6_tryEach_20 (d + 2 * c + 4) _ _ _ _ _ _ σ1 Q ⟨fun _ => ⟨fun z => ?_, fun z => ?_⟩, fun q => absurd (by decide) q⟩
    · rcases hq with ⟨q1, q2, q3⟩ | ⟨q1, q2⟩
      · exact h σ1 NW f1 g1 (Or.inl ⟨rfl, fun t ht => q3 t ht (hv.2.2.2.2.1 _ (ht.1 g hg).1)⟩)
      · rw [q1] at z; exact absurd z (by decide)
    · rcases hq with ⟨q1, q2, q3⟩ | ⟨q1, t, q2, q3, q4, q5⟩
      · exact absurd q2 z
      · exact h σ1 x6 f1 g1 (Or.inr ⟨t, q2, q3, q4, fun t' ht' => q5 t' ht' (hv.2.2.2.2.1 _ (ht'.1 g hg).1)⟩)
  · intro k hk ih σ1 x6 x8 f1 g1 hq
    have hv1 := hv.fr f1
    have hM1 := hM.fr f1
    obtain ⟨b1, b2⟩ := hv1.2.2.2.1 k hk
    refine b_X6_tryEach_20 (d + 2 * c + 4) _ _ _ _ _ _ σ1 Q ⟨fun q => absurd ((le_nI (n := 4) (by omega) (by omega)).mp q) (by omega), fun _ => ⟨vp_in_nI hk (by omega), fun z4 e4 => ⟨vp_in_nI (by omega) (by omega), vp_in_nI (by omega) (by omega), ?_⟩⟩⟩
    rw [nI_clamp (by omega), b1] at e4
    subst e4
    obtain ⟨m1, m2⟩ := hM1 g hg
    rw [nI_clamp (by omega), nI_clamp (by omega), show 37 + 1 + 1 * lv = 38 + lv by omega, m1, nI_1, nI_1]
    refine s_X7_has (d + 2 * c + 4) _ (by omega) σ1 _ ?_
    rw [bt_nI _ (by omega)]
    -- what the texture B k leaves: nothing new
    have keep : ∀ σ3, Fr (frW lv) σ σ3 → σ3.2 = σ.2 → (∀ t, asg a (bt y) M t → t g = B k → (∀ v : Int, x6 = iL v → v ≤ 1152921504606846976 → 0 ≤ v → v ≤ (wt a (bt y) t : Int))) → g_X6_tryEach (d + 2 * c + 5) 20 [(0, aN 30), (3, aI (nI g)), (4, aI y), (5, aI (nI lv)), (6, aL x6), (8, aI x8), (9, aI (nI (k + 1)))] σ3 Q := by
      intro σ3 f3 g3 hz
      refine ih σ3 x6 x8 f3 g3 ?_
      rcases hq with ⟨q1, q2, q3⟩ | ⟨q1, t, q2, q3, q4, q5⟩
      · refine Or.inl ⟨q1, q2, fun t ht ⟨j, j1, j2⟩ => ?_⟩
        by_cases z : j = k
        · subst z; exact hz t ht j2.symm L q1 hL (by omega)
        · exact q3 t ht ⟨j, by omega, j2⟩
      · refine Or.inr ⟨q1, t, q2, q3, q4, fun t' ht' ⟨j, j1, j2⟩ => ?_⟩
        by_cases z : j = k
        · subst z
          have := hz t' ht' j2.symm (wt a (bt y) t : Nat) (by rw [q4, lN_iL]) (by have := wt_lt hw (A := bt y) (t := t) (fun g hg => (q2.1 g hg).1); omega) (by omega)
          omega
        · exact q5 t' ht' ⟨j, by omega, j2⟩
    refine ⟨fun z => keep σ1 f1 g1 (fun t ht e => ?_), fun z => ?_⟩
    · have := (ht.1 g hg).2
      rw [e, b2i_0.mp z] at this; cases this
    · have op := b2i_n.mp z
      refine s_give (d + 2 * c + 3) hw (by omega) y hy σ1 hv1 hM1 hg b2 _ (fun σ2 M' f2 g2 o2 hM' => ?_)
      have f12 : Fr (frW lv) σ σ2 := f1.tr (f2.wk (fun k j q => by unfold frW; omega))
      have hv2 := hv.fr f12
      refine s_weight (d + 2 * c + 3) hw hg12 b2 σ2 (hv2.2.1 _ b2) _ ?_
      have hwl := wG_lt hw (g := g) b2
      obtain ⟨cur, e6, cu0, cu1⟩ : ∃ cur : Int, x6 = iL cur ∧ 0 ≤ cur ∧ cur ≤ 1152921504606846976 := by
        rcases hq with ⟨q1, q2, q3⟩ | ⟨q1, t, q2, q3, q4, q5⟩
        · exact ⟨L, q1, by omega, hL⟩
        · exact ⟨(wt a (bt y) t : Nat), by rw [q4, lN_iL], by omega, by have := wt_lt hw (A := bt y) (t := t) (fun g hg => (q2.1 g hg).1); omega⟩
      have hb' : ∀ i, bt (y &&& (((1 : Int32) <<< (nI g &&& 31)) ^^^ (-1))) i = (bt y i && decide (i ≠ g)) := fun i => by
        by_cases h32 : i < 32
        · rw [b_and, bt_not _ h32, bt_1 (by omega)]
          by_cases z : i = g <;> simp [z]
        · rw [b_big (by omega), b_big (by omega)]; rfl
      generalize ey : y &&& (((1 : Int32) <<< (nI g &&& 31)) ^^^ (-1)) = y' at hb' ⊢
      have sb : ∀ i, bt y' i = true → bt y i = true := fun i hi => by rw [hb', Bool.and_eq_true] at hi; exact hi.1
      have cy : cnt (bt y') 12 ≤ c := by
        have := cnt_sl (p := bt y') (q := bt y) (n := 12) (k := g) (fun i _ => sb i) hg12 (by rw [hb']; simp) hg
        omega
      rw [e6, lN_iL, iL_sub]
      refine hl d (lv + 1) y' M' (cur - (wG a g (B k) : Nat)) σ2 _ hv2 (fun i hi => hy i (sb i hi)) cy (by omega) (o2.sb sb) (by omega) (by omega) (fun σ3 r f3 g3 mr => ?_)
      have f13 : Fr (frW lv) σ σ3 := f12.tr (f3.wk (fun k j q => by unfold frW at q ⊢; omega))
      have g13 : σ3.2 = σ.2 := g3.trans (g2.trans g1)
      rcases mr with ⟨r1, r2⟩ | ⟨tr, r1, r2, r3, r4⟩
      · refine ⟨fun _ => ?_, fun q => absurd ((lg_cmp_eq _ _).mpr r1) q⟩
        rw [← e6]
        refine keep σ3 f13 g13 (fun t ht e v ev v1 v2 => ?_)
        obtain ⟨p1, p2⟩ := give_dn hg12 hg hb' hM' ht e
        have := r2 t p1
        rw [e6] at ev
        have := (iL_eq2 (by omega) (by omega) (by omega) (by omega)).mp ev
        omega
      · have wl := wt_lt hw (A := bt y') (t := tr) (fun g hg => (r1.1 g hg).1)
        refine ⟨fun q => ?_, fun _ z20 e20 => ?_⟩
        · exfalso
          have q : r = NW := (lg_cmp_eq _ _).mp q
          have q := q.trans NW_iL
          rw [r3, lN_iL] at q
          have := (iL_eq2 (by omega) (by omega) (by omega) (by omega)).mp q
          omega
        · obtain ⟨p1, p2⟩ := give_up hw hy b2 hg op hb' hM' r1
          rw [r3, ← lN_iL, lN_add] at e20
          have e20 : z20 = lN (wt a (bt y) (u1 tr g (B k))) := by rw [e20, p2]
          refine ih σ3 z20 1 f13 g13 (Or.inr ⟨rfl, u1 tr g (B k), p1, ?_, e20, fun t' ht' ⟨j, j1, j2⟩ => ?_⟩)
          · rw [p2]
            rcases hq with ⟨q1, q2, q3⟩ | ⟨q1, t, q2, q3, q4, q5⟩
            · rw [e6] at q1
              have := (iL_eq2 (by omega) (by omega) (by omega) (by omega)).mp q1
              omega
            · have wl2 := wt_lt hw (A := bt y) (t := t) (fun g hg => (q2.1 g hg).1)
              rw [e6, lN_iL] at q4
              have := (iL_eq2 (by omega) (by omega) (by omega) (by omega)).mp q4
              omega
          · by_cases z : j = k
            · subst z
              obtain ⟨p3, p4⟩ := give_dn hg12 hg hb' hM' ht' j2.symm
              have := r4 t' p3
              omega
            · rw [p2]
              rcases hq with ⟨q1, q2, q3⟩ | ⟨q1, t, q2, q3, q4, q5⟩
              · rw [e6] at q1
                have := (iL_eq2 (by omega) (by omega) (by omega) (by omega)).mp q1
                have := q3 t' ht' ⟨j, by omega, j2⟩
                omega
              · have wl2 := wt_lt hw (A := bt y) (t := t) (fun g hg => (q2.1 g hg).1)
                rw [e6, lN_iL] at q4
                have := (iL_eq2 (by omega) (by omega) (by omega) (by omega)).mp q4
                have := q5 t' ht' ⟨j, by omega, j2⟩
                omega
