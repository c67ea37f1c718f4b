/-! TEXTURES: the least of a set, group by group -/
theorem cwt_split {a : Ab} {C M : Nat → Nat} {A G R : Nat → Bool} (h1 : ∀ i, A i = (G i || R i)) (h2 : ∀ i, G i = true → R i = false) : cwt a C M A = cwt a C M G + cwt a C M R := wt_split h1 h2
set_option maxHeartbeats 4000000 in
theorem lb_of {a : Ab} (hw : WF a) {C B : Nat → Nat} {c : Nat} (ht : TE a C B c) : LB a C B c := by
  intro d lv x M L σ Q hv hx hc hlv hM hL0 hL h
  have hn := hw.1
  have x12 : ∀ g, bt x g = true → g < 12 := fun g hg => by have := (hx g hg).1; omega
  have cwl : ∀ y : Int32, (∀ g, bt y g = true → bt x g = true ∧ 1 ≤ M g) → cwt a C M (bt y) < 100000000000 := fun y hy => wt_lt hw (fun g hg => (hv.2.2.2.2.2 (M g) (hy g hg).2 (hM g (hy g hg).1).2).2.1)
  have Lp := up_loop (fun k => ∀ (σ1 : tk_S) (lf : Int32) (s5 : Int64), Fr (frW lv) σ σ1 → σ1.2 = σ.2 → (∀ g, bt lf g = true → bt x g = true) → cnt (bt lf) 12 + k ≤ 12 → ((s5 = NW ∧ ∀ t, asg a (bt x) M t → L ≤ (wt a (bt x) t : Int)) ∨ ∃ (D : Nat → Bool) (tD : Nat → Nat), (∀ i, bt x i = (D i || bt lf i)) ∧ (∀ i, D i = true → bt lf i = false) ∧ (∀ g k, D g = true → bt lf k = true → ¬ nbrP a g k) ∧ asg a D M tD ∧ (∀ t', asg a D M t' → wt a D tD ≤ wt a D t') ∧ (∀ g, bt lf g = true → 1 ≤ M g) ∧ s5 = lN (wt a D tD + cwt a C M (bt lf))) → g_X6_leastBelow (d + 2 * c + 4) 20 [(0, aN 30), (1, aL (iL L)), (4, aI (nI lv)), (5, aL s5), (7, aI lf), (8, aI (nI k))] σ1 Q) 12 ?_ ?_
  · refine e_X6_leastBelow (d + 2 * c + 4) _ _ _ (b_X6_leastBelow_0 (d + 2 * c + 3) _ _ _ σ Q ⟨vp_in_nI (by omega) (by omega), ?_⟩)
    rw [nI_clamp (by omega), show 37 + 1 + 1 * lv = 38 + lv by omega]
    refine s_cheap (d + 2 * c + 1) hw (by omega) x hx σ hv hM _ (fun ⟨g, g1, g2⟩ => ?_) (fun h1 => ?_)
    · refine Lp σ x NW (Fr.rf σ) rfl (fun _ q => q) (by have := cnt_n (bt x) 12; omega) (Or.inl ⟨rfl, fun t ht => ?_⟩)
      have := (ht.1 g g1).2
      rw [g2, Nat.zero_testBit] at this; cases this
    · refine Lp σ x _ (Fr.rf σ) rfl (fun _ q => q) (by have := cnt_n (bt x) 12; omega) (Or.inr ⟨fun _ => false, fun _ => 0, fun i => by simp, fun i hi => (by cases hi), fun g k hg => (by cases hg), ⟨fun g hg => (by cases hg), fun g k hg => (by cases hg)⟩, fun t' _ => ?_, h1, ?_⟩)
      · exact Nat.le_of_eq (sumB_cg (fun i _ hp => by cases hp))
      · have e0 : wt a (fun _ => false) (fun _ => 0) = 0 := sumB_up (m := 0) _ _ (by omega) (fun i _ _ => rfl)
        rw [e0, Nat.zero_add]
  · intro σ1 lf s5 f1 g1 hs hk hq
    have nol : ∀ g, bt lf g = true → False := fun g hg => by
      have := cnt_lt (p := bt lf) (m := g) (n := 12) (x12 g (hs g hg)) hg
      omega
    refine b_X6_leastBelow_20 (d + 2 * c + 3) _ _ _ _ _ σ1 Q ⟨fun _ => ?_, fun q => absurd (by decide) q⟩
    rw [lg_cmp_ge]
    rcases hq with ⟨q1, q2⟩ | ⟨D, tD, p1, p2, p3, p4, p5, p6, p7⟩
    · exact ⟨fun _ => h σ1 NW f1 g1 (Or.inl ⟨rfl, q2⟩), fun z => absurd (by rw [q1, NW_iL]; exact (iL_le2 (by omega) (by omega) (by omega) (by omega)).mpr hL) z⟩
    · have wl := wt_lt hw (A := D) (t := tD) (fun g hg => (p4.1 g hg).1)
      have cl := cwl lf (fun g hg => (nol g hg).elim)
      have eD : ∀ i, bt x i = D i := fun i => by
        rw [p1]
        cases e : bt lf i
        · rw [Bool.or_false]
        · exact (nol i e).elim
      have eD : bt x = D := funext eD
      have c0 : cwt a C M (bt lf) = 0 := sumB_up (m := 0) _ _ (by omega) (fun i _ _ => by
        cases e : bt lf i
        · rfl
        · exact (nol i e).elim)
      rw [p7, lN_iL, iL_le2 (by omega) (by omega) (by omega) (by omega), c0, Nat.add_zero]
      refine ⟨fun z => h σ1 NW f1 g1 (Or.inl ⟨rfl, fun t ht' => ?_⟩), fun z => h σ1 _ f1 g1 (Or.inr ⟨tD, ?_, ?_, ?_, fun t' ht' => ?_⟩)⟩
      · rw [eD] at ht' ⊢; have := p5 t ht'; omega
      · rw [eD]; exact p4
      · rw [eD]; omega
      · rw [eD, lN_iL]
      · rw [eD] at ht' ⊢; exact p5 t' ht'
  · intro k hk ih σ1 lf s5 f1 g1 hs hk2 hq
    have hv1 := hv.fr f1
    have hM1 := (hM.fr f1).sb hs
    have hlf : subs a lf := fun g hg => hx g (hs g hg)
    refine b_X6_leastBelow_20 (d + 2 * c + 3) _ _ _ _ _ σ1 Q ⟨fun q => absurd ((le_nI (n := 12) (by omega) (by omega)).mp q) (by omega), fun _ => ?_⟩
    rw [lg_cmp_ge]
    rcases hq with ⟨q1, q2⟩ | ⟨D, tD, p1, p2, p3, p4, p5, p6, p7⟩
    · have le : iL L ≤ s5 := by rw [q1, NW_iL]; exact (iL_le2 (by omega) (by omega) (by omega) (by omega)).mpr hL
      exact ⟨fun _ => ⟨fun _ => h σ1 NW f1 g1 (Or.inl ⟨rfl, q2⟩), fun z => absurd le z⟩, fun z => absurd le z⟩
    have wl := wt_lt hw (A := D) (t := tD) (fun g hg => (p4.1 g hg).1)
    have cl := cwl lf (fun g hg => ⟨hs g hg, p6 g hg⟩)
    have hch : ∀ g, bt lf g = true → isChp a (M g) (C (M g)) := fun g hg => (hv.2.2.2.2.2 (M g) (p6 g hg) (hM g (hs g hg)).2).2
    have lower : ∀ t, asg a (bt x) M t → wt a D tD + cwt a C M (bt lf) ≤ wt a (bt x) t := fun t ht' => by
      have e1 := p5 t (asg_sub ht' (fun g hg => by rw [p1, hg]; rfl))
      have e2 := cwt_le hch (asg_sub ht' hs)
      rw [wt_split p1 p2]; omega
    rw [p7, lN_iL, iL_le2 (by omega) (by omega) (by omega) (by omega)]
    have nw : L ≤ ((wt a D tD + cwt a C M (bt lf) : Nat) : Int) → Q NW σ1 := fun z => h σ1 NW f1 g1 (Or.inl ⟨rfl, fun t ht' => by have := lower t ht'; omega⟩)
    refine ⟨fun z => ⟨fun _ => nw z, fun z2 => absurd z z2⟩, fun z => ⟨vp_in_nI (by omega) (by omega), ?_⟩⟩
    rw [nI_clamp (by omega), show 37 + 1 + 1 * lv = 38 + lv by omega]
    refine s_clashing (d + 2 * c + 1) hw (by omega) lf hlf σ1 hv1 hM1 p6 _ (fun σ2 f2 g2 nc => ⟨fun q => absurd rfl q, fun _ => ?_⟩) (fun σ2 g f2 g2 hg => ⟨fun _ => ?_, fun q => ?_⟩)
    · have fx : Fr (frW lv) σ σ2 := f1.tr (f2.wk (fun k j q => Or.inl q))
      rw [← lN_iL]
      have al : asg a (bt lf) M (fun g => C (M g)) := ⟨fun g hg => ⟨(hch g hg).1, (hch g hg).2.1⟩, nc⟩
      have ew : wt a (bt x) (mix D tD (fun g => C (M g))) = wt a D tD + cwt a C M (bt lf) := mix_wt p1 p2
      refine h σ2 _ fx (g2.trans g1) (Or.inr ⟨mix D tD (fun g => C (M g)), mix_asg p1 p2 p3 p4 al, ?_, ?_, fun t' ht' => ?_⟩)
      · rw [ew]; omega
      · rw [ew]
      · rw [ew]; exact lower t' ht'
    · have f12 : Fr (frW lv) σ σ2 := f1.tr (f2.wk (fun k j q => Or.inl q))
      have hv2 := hv.fr f12
      refine s_groupOf (d + 2 * c + 2) hw lf hlf σ2 hv2 g hg _ (fun y hgr z13 e13 => ⟨vp_in_nI (by omega) (by omega), ?_⟩)
      obtain ⟨r1, r2, r3⟩ := hgr
      have hyx : ∀ i, bt y i = true → bt x i = true := fun i hi => hs i (r2 i hi)
      have hM2 : opn σ2 lv y M := (hM.fr f12).sb hyx
      have b13 : ∀ i, bt z13 i = (bt lf i && !bt y i) := fun i => by
        by_cases h32 : i < 32
        · rw [e13, b_and, bt_not _ h32]
        · rw [b_big (by omega), b_big (by omega)]; rfl
      have s1 : ∀ i, bt lf i = (bt y i || bt z13 i) := fun i => by
        rw [b13]
        cases e : bt y i
        · simp
        · rw [r2 i e]; simp
      have s2 : ∀ i, bt y i = true → bt z13 i = false := fun i hi => by rw [b13, hi]; simp
      have z13s : ∀ i, bt z13 i = true → bt lf i = true := fun i hi => by rw [s1, hi]; simp
      refine s_cheap (d + 2 * c + 1) hw (by omega) y (fun i hi => hx i (hyx i hi)) σ2 hv2 hM2 _ (fun ⟨i, i1, i2⟩ => absurd (p6 i (r2 i i1)) (by omega)) (fun _ z18 e18 => ?_)
      have ec : cwt a C M (bt lf) = cwt a C M (bt y) + cwt a C M (bt z13) := cwt_split s1 s2
      have e18 : z18 = iL ((wt a D tD + cwt a C M (bt z13) : Nat) : Int) := by
        rw [e18, lN_iL, iL_sub]
        congr 1
        omega
      have cl13 := cwl z13 (fun g hg => ⟨hs g (z13s g hg), p6 g (z13s g hg)⟩)
      rw [e18, iL_sub]
      have cy : cnt (bt lf) 12 = cnt (bt y) 12 + cnt (bt z13) 12 := cnt_split (fun i _ => s1 i) (fun i _ => s2 i)
      have cy1 := cnt_lt (p := bt y) (m := g) (n := 12) (x12 g (hs g hg)) r1
      have cx : cnt (bt lf) 12 ≤ cnt (bt x) 12 := cnt_ss (fun i _ => hs i)
      refine ht d lv y g M _ σ2 _ hv2 (fun i hi => hx i (hyx i hi)) r1 (by omega) hlv hM2 (by omega) (by omega) (fun σ3 r f3 g3 mr => ?_)
      have f13 := f12.tr f3
      have g13 : σ3.2 = σ.2 := g3.trans (g2.trans g1)
      rw [nI_1]
      rcases mr with ⟨m1, m2⟩ | ⟨ty, m1, m2, m3, m4⟩
      · refine ⟨fun q => absurd ((lg_cmp_eq _ _).mpr m1) q, fun _ => ih σ3 z13 NW f13 g13 (fun i hi => hs i (z13s i hi)) (by omega) (Or.inl ⟨rfl, fun t ht' => ?_⟩)⟩
        have e1 := p5 t (asg_sub ht' (fun g hg => by rw [p1, hg]; rfl))
        have e2 := m2 t (asg_sub ht' hyx)
        have e3 := cwt_le (fun g hg => hch g (z13s g hg)) (asg_sub ht' (fun g hg => hs g (z13s g hg)))
        rw [wt_split p1 p2, wt_split s1 s2]
        omega
      · have wy := wt_lt hw (A := bt y) (t := ty) (fun g hg => (m1.1 g hg).1)
        refine ⟨fun _ z23 e23 => ?_, fun q => ?_⟩
        · have d1 : ∀ i, D i = true → bt y i = false := fun i hi => by
            cases e : bt y i
            · rfl
            · have := p2 i hi
              rw [r2 i e] at this; cases this
          have dS : ∀ i, (D i || bt y i) = (D i || bt y i) := fun _ => rfl
          have wD : wt a (fun i => D i || bt y i) (mix D tD ty) = wt a D tD + wt a (bt y) ty := mix_wt (A := fun i => D i || bt y i) dS d1
          refine ih σ3 z13 z23 f13 g13 (fun i hi => hs i (z13s i hi)) (by omega) (Or.inr ⟨fun i => D i || bt y i, mix D tD ty, fun i => ?_, fun i hi => ?_, fun i j hi hj hnb => ?_, mix_asg (A := fun i => D i || bt y i) dS d1 (fun i j hi hj hnb => p3 i j hi (r2 j hj) hnb) p4 m1, fun t' ht' => ?_, fun i hi => p6 i (z13s i hi), ?_⟩)
          · rw [p1, s1, Bool.or_assoc]
          · rcases Bool.or_eq_true_iff.mp hi with v | v
            · cases e : bt z13 i
              · rfl
              · have := p2 i v
                rw [z13s i e] at this; cases this
            · exact s2 i v
          · rcases Bool.or_eq_true_iff.mp hi with v | v
            · exact p3 i j v (z13s j hj) hnb
            · have := r3 i j v (z13s j hj) hnb
              rw [s2 j this] at hj; cases hj
          · have e1 := p5 t' (asg_sub ht' (fun g hg => by show (D g || bt y g) = true; rw [hg]; rfl))
            have e2 := m4 t' (asg_sub ht' (fun g hg => by show (D g || bt y g) = true; rw [hg]; simp))
            rw [wD, wt_split (A := fun i => D i || bt y i) dS d1]
            omega
          · rw [e23, m3, wD, lN_iL, lN_iL, iL_add]
            congr 1
            omega
        · exfalso
          have q : r = NW := (lg_cmp_eq _ _).mp q
          have q := q.trans NW_iL
          rw [m3, lN_iL] at q
          have := (iL_eq2 (by omega) (by omega) (by omega) (by omega)).mp q
          omega
    · exfalso
      have := nI_pos (n := g) (by have := x12 g (hs g hg); omega)
      rw [q] at this
      exact this (by decide)
theorem lb_all {a : Ab} (hw : WF a) {C B : Nat → Nat} : ∀ c, LB a C B c := by
  intro c
  induction c with
  | zero =>
    refine lb_of hw (fun d lv y g M L σ Q hv hy hg hc => ?_)
    have := cnt_lt (p := bt y) (m := g) (n := 12) (by have := (hy g hg).1; have := hw.1; omega) hg
    omega
  | succ c ih => exact lb_of hw (te_of hw ih)
