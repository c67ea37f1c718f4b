/-! TEXTURES: what the class weaves -/
theorem sumB_lin (p : Nat → Bool) (f h : Nat → Nat) (K : Nat) : ∀ n, sumB p (fun i => f i * K + h i) n = sumB p f n * K + sumB p h n := by
  intro n
  induction n with
  | zero => show (0 : Nat) = 0 * K + 0; omega
  | succ n ih =>
    show sumB p (fun i => f i * K + h i) n + (if p n then f n * K + h n else 0) = (sumB p f n + (if p n then f n else 0)) * K + (sumB p h n + (if p n then h n else 0))
    rw [ih, Nat.add_mul]
    cases p n
    · simp
    · simp; omega
theorem dig_sum (a : Ab) (t : Nat → Nat) : ∀ n, sumB (isG a) (fun i => t i * 4 ^ (11 - i)) n = dig (texG a t) n := by
  intro n
  induction n with
  | zero => rfl
  | succ n ih =>
    show sumB (isG a) (fun i => t i * 4 ^ (11 - i)) n + (if isG a n then t n * 4 ^ (11 - n) else 0) = dig (texG a t) n + texG a t n * 4 ^ (11 - n)
    rw [ih]
    unfold isG texG
    by_cases e : aKi a n = 1
    · simp [e]
    · simp [e]
theorem texW_dig (a : Ab) (t : Nat → Nat) : texW a t = texC a t * 16777216 + dig (texG a t) (aN0 a) := by
  unfold texW
  rw [dig_sum]
theorem texG_lt {a : Ab} {t : Nat → Nat} (h : texOK a t) : ∀ j, texG a (fun i => if i < aN0 a then t i else 0) j < 4 := by
  intro j
  unfold texG
  by_cases e : aKi a j = 1
  · rw [if_pos e]
    show (if j < aN0 a then t j else 0) < 4
    by_cases e2 : j < aN0 a
    · rw [if_pos e2]; exact h.1 j e2 e
    · rw [if_neg e2]; omega
  · rw [if_neg e]; omega
theorem dig_texG (a : Ab) (t : Nat → Nat) : dig (texG a t) (aN0 a) = dig (texG a (fun i => if i < aN0 a then t i else 0)) (aN0 a) := dig_c (fun i hi => by unfold texG; simp [hi])
def gB (a : Ab) (x : Int32) : Prop := ∀ i, bt x i = decide (i < aN0 a ∧ aKi a i = 1)
theorem gB_subs {a : Ab} {x : Int32} (h : gB a x) : subs a x := fun g hg => by rw [h g] at hg; exact of_decide_eq_true hg
theorem wt_tex {a : Ab} (hn : aN0 a ≤ 12) {x : Int32} (h : gB a x) (t : Nat → Nat) : wt a (bt x) t = texW a t := by
  have e1 : wt a (bt x) t = sumB (bt x) (fun g => aPr a (t g) * 16777216 + t g * 4 ^ (11 - g)) (aN0 a) := sumB_up _ _ hn (fun i hi _ => by rw [h i]; exact decide_eq_false (by omega))
  rw [e1, sumB_lin]
  have e2 : ∀ f, sumB (bt x) f (aN0 a) = sumB (isG a) f (aN0 a) := fun f => sumB_c (fun i hi => by rw [h i]; unfold isG; exact decide_eq_decide.mpr ⟨fun q => q.2, fun q => ⟨hi, q⟩⟩) (fun _ _ => rfl)
  rw [e2, e2]
  rfl
theorem bits15 : ∀ t, t < 4 → (15 : Nat).testBit t = true := by decide
theorem asg_tex {a : Ab} {x : Int32} (h : gB a x) (t : Nat → Nat) : asg a (bt x) (fun _ => 15) t ↔ texOK a t := by
  have hb : ∀ g, bt x g = true ↔ g < aN0 a ∧ aKi a g = 1 := fun g => by rw [h g]; exact decide_eq_true_iff
  constructor
  · intro q
    exact ⟨fun i hi hk => (q.1 i ((hb i).mpr ⟨hi, hk⟩)).1, fun i j hi hj hn => q.2 i j ((hb i).mpr ⟨hi, hn.2.1⟩) ((hb j).mpr ⟨hj, hn.2.2.1⟩) hn⟩
  · intro q
    refine ⟨fun g hg => ?_, fun g k hg hk hn => q.2 g k ((hb g).mp hg).1 ((hb k).mp hk).1 hn⟩
    have := q.1 g ((hb g).mp hg).1 ((hb g).mp hg).2
    exact ⟨this, bits15 _ this⟩
theorem tex_of {a : Ab} (hw : WF a) {x : Int32} (h : gB a x) {r : Int64} (hm : minW a (bt x) (fun _ => 15) 1152921504606846976 r) : (noTex a ∧ r = NW) ∨ ∃ t, isTex a t ∧ r = lN (texW a t) := by
  have hn := hw.1
  rcases hm with ⟨r1, r2⟩ | ⟨t, r1, r2, r3, r4⟩
  · refine Or.inl ⟨fun t ht => ?_, r1⟩
    have q := (asg_tex h t).mpr ht
    have := r2 t q
    have := wt_lt hw (A := bt x) (t := t) (fun g hg => (q.1 g hg).1)
    omega
  · have ok := (asg_tex h t).mp r1
    refine Or.inr ⟨t, ⟨ok, fun t' ht' => ?_⟩, by rw [r3, wt_tex hn h]⟩
    have := r4 t' ((asg_tex h t').mpr ht')
    rw [wt_tex hn h, wt_tex hn h, texW_dig, texW_dig] at this
    have d1 := dig_top (texG_lt ok) (aN0 a) hn
    have d2 := dig_top (texG_lt ht') (aN0 a) hn
    rw [← dig_texG] at d1 d2
    have p1 : 0 < 4 ^ (12 - aN0 a) := Nat.pow_pos (by omega)
    rcases Nat.lt_or_ge (texC a t) (texC a t') with q | q
    · exact Or.inl q
    · have e : texC a t = texC a t' := by omega
      refine Or.inr ⟨e, ?_⟩
      have e2 : dig (texG a t) (aN0 a) ≤ dig (texG a t') (aN0 a) := by omega
      rw [dig_texG a t'] at e2
      have lx := dig_lex (texG_lt ht') hn e2
      have cg : ∀ i, i < aN0 a → texG a (fun i => if i < aN0 a then t' i else 0) i = texG a t' i := fun i hi => by unfold texG; simp [hi]
      rcases lx with z | ⟨i, z1, z2, z3⟩
      · exact Or.inl (fun i hi => by rw [z i hi, cg i hi])
      · exact Or.inr ⟨i, z1, by rw [← cg i z1]; exact z2, fun j hj => by rw [z3 j hj, cg j (by omega)]⟩
theorem s_groundSet (d : Nat) (a : Ab) (hw : WF a) (σ : tk_S) (hX : XI a σ) (Q : Int32 → tk_S → Prop) (h : ∀ x, gB a x → Q x σ) : p_X7_groundSet d [aN 0] σ Q := by
  have hn := hw.1
  refine e_X7_groundSet d (b_X7_groundSet_0 d σ Q ?_)
  have L := up_loop (fun i => ∀ x : Int32, (∀ j, bt x j = decide (j < i ∧ aKi a j = 1)) → g_X7_groundSet d 4 [(0, aN 0), (1, aI x), (2, aI (nI i))] σ Q) (aN0 a) ?_ ?_
  · exact L 0 (fun j => by rw [b_0, decide_eq_false (by omega)])
  · intro x hx
    exact b_X7_groundSet_4 d _ _ σ Q ⟨fun _ => h x hx, fun c => absurd (by rw [hX.1]; exact (le_nI (by omega) (by omega)).mpr (Nat.le_refl _)) c⟩
  · intro i hi ih x hx
    have hk := (hw.2.2.2.2.2.1 i hi).1
    refine b_X7_groundSet_4 d _ _ σ Q ⟨fun c => absurd ((le_nI (by omega) (by omega)).mp (hX.1 ▸ c)) (by omega), fun _ => ⟨vp_in_nI (by omega) (by omega), ?_⟩⟩
    rw [nI_clamp (by omega), show 1 + 71 + 5 * i = 72 + 5 * i by omega, (hX.2.2.2.2.1 i hi).1, show (1 : Int32) = nI 1 from rfl, nI_eq (by omega) (by omega), show nI 1 = (1 : Int32) from rfl, nI_1]
    refine ⟨fun c => ih x (fun j => ?_), fun c z e => ih z (fun j => ?_)⟩
    · rw [hx j]
      by_cases z : j = i
      · subst z; rw [decide_eq_false (by omega), decide_eq_false (by omega)]
      · exact decide_eq_decide.mpr ⟨fun q => ⟨by omega, q.2⟩, fun q => ⟨by omega, q.2⟩⟩
    · rw [e, b_or, hx j, bt_1 (by omega)]
      by_cases z : j = i
      · subst z; rw [decide_eq_true rfl, Bool.or_true, decide_eq_true ⟨by omega, c⟩]
      · rw [decide_eq_false z, Bool.or_false]
        exact decide_eq_decide.mpr ⟨fun q => ⟨by omega, q.2⟩, fun q => ⟨by omega, q.2⟩⟩
def frG : Nat → Nat → Prop := fun k j => (k = 30 ∧ j = 7) ∨ (34 ≤ k ∧ k ≤ 50)
set_option maxHeartbeats 1000000 in
theorem s_giveTextures (d : Nat) (a : Ab) (hw : WF a) (x : Int32) (hx : gB a x) (σ : tk_S) (h31 : ∀ s t, s < 4 → bt (σ.1 31 s) t = decide (t < 4 ∧ aAp a s t = 1)) (h32 : ∀ t, t < 4 → σ.1 32 t = nI (aPr a t)) (h33 : ∀ g, g < aN0 a → aKi a g = 1 → ∀ h, bt (σ.1 33 g) h = pB (h < aN0 a ∧ nbrP a g h)) (Q : tk_S → Prop) (h : ∀ σ', Fr frG σ σ' → σ'.1 30 7 = x → ((noTex a ∧ σ'.2 = NW) ∨ ∃ t, isTex a t ∧ σ'.2 = lN (texW a t)) → Q σ') : p_X6_giveTextures (d + 29) [aN 30, aI x] σ Q := by
  have hn := hw.1
  refine e_X6_giveTextures (d + 29) _ (b_X6_giveTextures_0 (d + 28) _ σ Q ?_)
  refine s_rank (d + 26) hw _ (fun t ht => by rw [rd_o (by omega)]; exact h32 t ht) _ (fun σ1 C f1 g1 r1 c1 => ?_)
  have rd1 : ∀ k j, ¬ ((k = 30 ∧ j = 7) ∨ k = 34 ∨ k = 35) → σ1.1 k j = σ.1 k j := fun k j hk => by rw [f1 k j (by omega), rd_o (by omega)]
  have L := up_loop (fun g => g_X6_giveTextures (d + 29) 11 [(0, aN 30), (2, aI (nI g))] (tk_fill σ1 38 g (fun _ => 15)) Q) 12 ?_ ?_
  · rw [tk_fill_0] at L
    exact L
  · refine b_X6_giveTextures_11 (d + 28) _ _ Q ⟨fun _ => ?_, fun q => absurd (by decide) q⟩
    generalize e2 : tk_fill σ1 38 12 (fun _ => (15 : Int32)) = σ2
    have rd2 : ∀ k j, k ≠ 38 → σ2.1 k j = σ1.1 k j := fun k j hk => by rw [← e2, tk_fill_o _ _ _ hk]
    have hx2 : σ2.1 30 7 = x := by rw [rd2 _ _ (by omega), f1 _ _ (by omega), rd_s]
    rw [hx2]
    obtain ⟨Bf, hB⟩ : ∃ Bf : Nat → Nat, ∀ k, k < 4 → Bf k < 4 ∧ rkT a (Bf k) = k := by
      have := Classical.skolem.mp (fun k => (by
        by_cases q : k < 4
        · obtain ⟨t, t1, t2⟩ := rk_sur a q
          exact ⟨t, fun _ => ⟨t1, t2⟩⟩
        · exact ⟨0, fun q1 => absurd q1 q⟩ : ∃ t : Nat, k < 4 → t < 4 ∧ rkT a t = k))
      exact this
    have hv2 : wv a C Bf σ2 := by
      refine ⟨fun s t hs => ?_, fun t ht => ?_, fun g hg hk j => ?_, fun k hk => ?_, fun t ht => ?_, fun m m1 m2 => ?_⟩
      · rw [rd2 _ _ (by omega), rd1 _ _ (by omega)]; exact h31 s t hs
      · rw [rd2 _ _ (by omega), rd1 _ _ (by omega)]; exact h32 t ht
      · rw [rd2 _ _ (by omega), rd1 _ _ (by omega)]; exact h33 g hg hk j
      · obtain ⟨b1, b2⟩ := hB k hk
        have := r1 (Bf k) b1
        rw [b2] at this
        rw [rd2 _ _ (by omega)]
        exact ⟨this, b1⟩
      · refine ⟨rkT a t, rk_lt a ht, ?_⟩
        obtain ⟨b1, b2⟩ := hB (rkT a t) (rk_lt a ht)
        exact rk_inj b1 ht b2
      · rw [rd2 _ _ (by omega)]; exact c1 m m1 m2
    rw [show (1152921504606846976 : Int64) = iL 1152921504606846976 from NW_iL]
    refine lb_all hw 12 d 0 x (fun _ => 15) 1152921504606846976 σ2 _ hv2 (gB_subs hx) (cnt_n _ 12) (by omega) (fun g hg => ⟨?_, (by decide : 15 < 16)⟩) (by omega) (by omega) (fun σ3 r f3 g3 mr => ?_)
    · rw [← e2, tk_fill_s]
      show (if g < 12 then (15 : Int32) else σ1.1 38 g) = nI 15
      rw [if_pos (by have := (gB_subs hx g hg).1; omega)]; rfl
    · refine h (σ3.1, r) (fun k j hk => ?_) ?_ (tex_of hw hx mr)
      · have hk : ¬ ((k = 30 ∧ j = 7) ∨ (34 ≤ k ∧ k ≤ 50)) := hk
        show σ3.1 k j = σ.1 k j
        rw [f3 k j (by unfold frW; omega), rd2 k j (by omega), rd1 k j (by omega)]
      · show σ3.1 30 7 = x
        rw [f3 _ _ (by unfold frW; omega)]; exact hx2
  · intro g hg ih
    refine b_X6_giveTextures_11 (d + 28) _ _ Q ⟨fun q => absurd ((le_nI (n := 12) (by omega) (by omega)).mp q) (by omega), fun _ => ⟨vp_in_nI (n := 0) (by omega) (by omega), vp_in_nI hg (by omega), ?_⟩⟩
    rw [nI_clamp (by omega), show (0 : Int32).toNatClampNeg = 0 from rfl, nI_1]
    show g_X6_giveTextures (d + 29) 11 [(0, aN 30), (2, aI (nI (g + 1)))] (tk_up (tk_fill σ1 38 g fun _ => 15) 38 g 15) Q
    rw [tk_fill_up _ _ _ _ rfl]
    exact ih
theorem isTex_core {a : Ab} {t : Nat → Nat} (h : isTex a t) : isTex (core a) t := h
theorem core_isTex {a : Ab} {t : Nat → Nat} (h : isTex (core a) t) : isTex a t := h
theorem noTex_core {a : Ab} (h : noTex a) : noTex (core a) := h
theorem core_noTex {a : Ab} (h : noTex (core a)) : noTex a := h
def frV : Nat → Nat → Prop := fun k j => (k = 30 ∧ j = 7) ∨ (33 ≤ k ∧ k ≤ 50) ∨ (k = 0 ∧ j = 16)
set_option maxHeartbeats 1000000 in
theorem s_X7_weave (d : Nat) (a : Ab) (hw : WF a) (σ : tk_S) (hX : XI a σ) (hK : XK (core a) σ) (Q : tk_S → Prop) (h : ∀ σ', Fr frV σ σ' → gB a (σ'.1 30 7) → ((noTex a ∧ σ'.2 = NW) ∨ ∃ t, isTex a t ∧ σ'.2 = lN (texW a t)) → XK (core a) σ' → Q σ') : p_X7_weave (d + 30) [aN 0] σ Q := by
  have hn := hw.1
  refine e_X7_weave (d + 30) (b_X7_weave_0 (d + 29) σ Q ⟨fun c => ?_, fun c => ?_⟩)
  · rcases hK.2.2 with q | ⟨q, q1, q2⟩
    · exact absurd q c
    · exact h σ (Fr.rf σ) q1 q2 hK
  · refine s_groundSet (d + 29) a hw σ hX _ (fun x hx => ?_)
    have L := up_loop (fun i => ∀ σ1, Fr (fun k _ => k = 33) σ σ1 → σ1.2 = σ.2 → (∀ g, g < i → aKi a g = 1 → ∀ j, bt (σ1.1 33 g) j = pB (j < aN0 a ∧ nbrP a g j)) → g_X7_weave (d + 30) 14 [(0, aN 0), (1, aI x), (2, aI (nI i))] σ1 Q) (aN0 a) ?_ ?_
    · exact L σ (Fr.rf σ) rfl (fun g hg => by omega)
    · intro σ1 f1 g1 n1
      refine b_X7_weave_14 (d + 29) _ _ σ1 Q ⟨fun _ => ?_, fun q => absurd (by rw [f1 _ _ (by omega), hX.1]; exact (le_nI (by omega) (by omega)).mpr (Nat.le_refl _)) q⟩
      refine s_giveTextures d a hw x hx σ1 (fun s t hs => by rw [f1 _ _ (by omega)]; exact hX.2.2.2.2.2.2.1 s t hs) (fun t ht => by rw [f1 _ _ (by omega)]; exact hX.2.2.2.2.2.2.2.1 t ht) n1 _ (fun σ2 f2 e2 tx => ?_)
      have e : ∀ k j, ¬ frV k j → (tk_up σ2 0 16 1).1 k j = σ.1 k j := fun k j hk => by
        unfold frV at hk
        rw [rd_o (by omega), f2 k j (by unfold frG; omega), f1 k j (by omega)]
      have gx : gB a ((tk_up σ2 0 16 1).1 30 7) := by rw [rd_o (by omega), e2]; exact hx
      refine h _ e gx tx ⟨?_, ?_, Or.inr ⟨rd_s, gx, tx⟩⟩
      · rw [e _ _ (by unfold frV; omega), e _ _ (by unfold frV; omega)]; exact hK.1
      · rw [e _ _ (by unfold frV; omega), e _ _ (by unfold frV; omega)]
        rcases hK.2.1 with q | ⟨q, m, c, q1, q2, q3⟩
        · exact Or.inl q
        · exact Or.inr ⟨q, m, c, q1, q2, fun i hi => by rw [e _ _ (by unfold frV; omega)]; exact q3 i hi⟩
    · intro i hi ih σ1 f1 g1 n1
      have h0 : σ1.1 0 1 = nI (aN0 a) := by rw [f1 _ _ (by omega)]; exact hX.1
      refine b_X7_weave_14 (d + 29) _ _ σ1 Q ⟨fun q => absurd ((le_nI (by omega) (by omega)).mp (h0 ▸ q)) (by omega), fun _ => ?_⟩
      refine s_X7_within (d + 29) a hw i 3 hi (by omega) σ1 h0 (fun i j hi hj => by rw [f1 _ _ (by omega)]; exact hX.2.2.2.2.2.2.2.2.1 i j hi hj) _ (fun U hU => ⟨vp_in_nI (by omega) (by omega), ?_⟩)
      rw [nI_clamp (by omega), nI_1]
      refine ih _ (f1.tr (Fr.up _ _ rfl)) g1 (fun g hg hk j => ?_)
      by_cases z : g = i
      · subst z
        rw [rd_s, b_and, hU j, hx j]
        apply Bool.eq_iff_iff.mpr
        rw [Bool.and_eq_true, pB_t, pB_t, decide_eq_true_iff]
        exact ⟨fun q => ⟨q.1.1, fun v => q.1.2.1 v.symm, hk, q.2.2, q.1.2.2⟩, fun q => ⟨⟨q.1, fun v => q.2.1 v.symm, q.2.2.2.2⟩, q.1, q.2.2.2.1⟩⟩
      · rw [rd_o (by omega)]; exact n1 g (by omega) hk j
theorem lshr {W : Nat} (hW : W < 2 ^ 62) (s : Int64) (k : Nat) (hs : (s.toBitVec.smod 64).toNat = k) : lN W >>> s = lN (W / 2 ^ k) := by
  apply Int64.toInt_inj.mp
  have h2 : W / 2 ^ k ≤ W := Nat.div_le_self _ _
  have e : (lN W >>> s).toInt = (lN W).toInt >>> k := by
    show ((lN W).toBitVec.sshiftRight (s.toBitVec.smod 64).toNat).toInt = _
    rw [hs, BitVec.toInt_sshiftRight]
    rfl
  rw [e, pk_lT (by omega), pk_lT (by omega), Int.shiftRight_eq_div_pow]
  rfl
theorem sh_i : ∀ i, i < 12 → ((Int32.toInt64 (2 * (11 - nI i)) &&& 63).toBitVec.smod 64).toNat = 2 * (11 - i) := by decide +kernel
theorem sh_24 : ((Int32.toInt64 24 &&& 63).toBitVec.smod 64).toNat = 24 := by decide +kernel
theorem texW_lt {a : Ab} (hw : WF a) {x : Int32} (hx : gB a x) {t : Nat → Nat} (h : texOK a t) : texW a t < 100000000000 := by
  rw [← wt_tex hw.1 hx]
  exact wt_lt hw (fun g hg => (((asg_tex hx t).mpr h).1 g hg).1)
theorem lN_and3 (n : Nat) : Int64.toInt32 (lN n) &&& 3 = nI (n % 4) := by
  rw [lN_i, pk_and _ 2 (by decide)]
  congr 1
  show n % 2 ^ 32 % 2 ^ 2 = n % 4
  omega
theorem lN_NW {n : Nat} (h : n < 100000000000) : lN n = NW → False := fun q => by
  have q := q.trans NW_iL
  rw [lN_iL] at q
  have := (iL_eq2 (by omega) (by omega) (by omega) (by omega)).mp q
  omega
/-- the class' texture of shape i: none, or the way's -/
def texR (a : Ab) (i : Nat) (r : Int32) : Prop := (r = -1 ∧ (noTex a ∨ aKi a i ≠ 1)) ∨ ∃ t, isTex a t ∧ aKi a i = 1 ∧ r = nI (t i)
theorem s_textureOf (d : Nat) (a : Ab) (hw : WF a) (σ : tk_S) (hx : gB a (σ.1 30 7)) (ht : (noTex a ∧ σ.2 = NW) ∨ ∃ t, isTex a t ∧ σ.2 = lN (texW a t)) {i : Nat} (hi : i < aN0 a) (Q : Int32 → tk_S → Prop) (h : ∀ r, texR a i r → Q r σ) : p_X6_textureOf (d + 1) [aN 30, aI (nI i)] σ Q := by
  have hn := hw.1
  refine e_X6_textureOf (d + 1) _ (b_X6_textureOf_0 d _ σ Q ?_)
  rw [lg_cmp_eq]
  refine ⟨fun q => h _ (Or.inl ⟨rfl, Or.inl ?_⟩), fun q => ?_⟩
  · rcases ht with z | ⟨t, t1, t2⟩
    · exact z.1
    · exact (lN_NW (texW_lt hw hx t1.1) (t2.symm.trans q)).elim
  · refine s_X7_has d _ (by omega) σ _ ?_
    rw [hx i]
    refine ⟨fun z => ?_, fun z => h _ (Or.inl ⟨rfl, Or.inr (fun v => of_decide_eq_false (b2i_0.mp z) ⟨hi, v⟩)⟩)⟩
    have z := of_decide_eq_true (b2i_n.mp z)
    refine e_X6_placeOf d _ (b_X6_placeOf_0 d _ σ _ ?_)
    rcases ht with v | ⟨t, t1, t2⟩
    · exact absurd v.2 q
    · have hl := texW_lt hw hx t1.1
      rw [t2, lshr (by omega) _ _ (sh_i i (by omega)), lN_and3]
      refine h _ (Or.inr ⟨t, t1, z.2, ?_⟩)
      congr 1
      rw [Nat.pow_mul, show 2 ^ 2 = 4 from rfl, texW_dig, dig_texG, dig_at (texG_lt t1.1) hi hn]
      unfold texG
      rw [if_pos z.2]
      show (if i < aN0 a then t i else 0) = t i
      rw [if_pos hi]
/-- the class' cost -/
def cosR (a : Ab) (r : Int32) : Prop := (r = -1 ∧ noTex a) ∨ ∃ t, isTex a t ∧ r = nI (texC a t)
theorem s_sumOfPrices (d : Nat) (a : Ab) (hw : WF a) (σ : tk_S) (hx : gB a (σ.1 30 7)) (ht : (noTex a ∧ σ.2 = NW) ∨ ∃ t, isTex a t ∧ σ.2 = lN (texW a t)) (Q : Int32 → tk_S → Prop) (h : ∀ r, cosR a r → Q r σ) : p_X6_sumOfPrices d [aN 30] σ Q := by
  have hn := hw.1
  refine e_X6_sumOfPrices d (b_X6_sumOfPrices_0 d σ Q ?_)
  rw [lg_cmp_eq]
  refine ⟨fun q => ?_, fun q => h _ (Or.inl ⟨rfl, ?_⟩)⟩
  · rcases ht with v | ⟨t, t1, t2⟩
    · exact absurd v.2 q
    · have hl := texW_lt hw hx t1.1
      rw [t2, lshr (by omega) _ _ sh_24, lN_i]
      refine h _ (Or.inr ⟨t, t1, ?_⟩)
      congr 1
      have d1 := dig_top (texG_lt t1.1) (aN0 a) hn
      have p1 : 0 < 4 ^ (12 - aN0 a) := Nat.pow_pos (by omega)
      rw [texW_dig, dig_texG, show (2 : Nat) ^ 24 = 16777216 from rfl]
      omega
  · rcases ht with z | ⟨t, t1, t2⟩
    · exact z.1
    · exact (lN_NW (texW_lt hw hx t1.1) (t2.symm.trans q)).elim
