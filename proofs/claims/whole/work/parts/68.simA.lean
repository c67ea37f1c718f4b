/-! SIMPLER: a corner by a step -/
theorem mulB {s o : Int} {m n : Nat} (h1 : s.natAbs ≤ m) (h2 : o.natAbs ≤ n) : (s * o).natAbs ≤ m * n := by rw [Int.natAbs_mul]; exact Nat.mul_le_mul h1 h2
def iL (z : Int) : Int64 := Int64.ofInt z
theorem iL_mul (a b : Int) : iL a * iL b = iL (a * b) := (Int64.ofInt_mul a b).symm
theorem iL_of {z : Int} (h1 : -2147483648 ≤ z) (h2 : z < 2147483648) : Int32.toInt64 (iI z) = iL z := by
  rw [← Int64.toInt_inj, Int32.toInt_toInt64, iI_t h1 h2]
  exact (Int64.toInt_ofInt_of_le (by omega) (by omega)).symm
theorem iL_lt {a b : Int} (h1 : -2147483648 ≤ a) (h2 : a < 2147483648) (h3 : -2147483648 ≤ b) (h4 : b < 2147483648) : iL a < iL b ↔ a < b := by
  rw [Int64.lt_iff_toInt_lt]
  unfold iL
  rw [Int64.toInt_ofInt_of_le (by omega) (by omega), Int64.toInt_ofInt_of_le (by omega) (by omega)]
def byQ (sx sy ox oy : Int) (b : Nat) : Prop := if ox * sx + oy * sy ≤ 0 then ox * ox + oy * oy ≤ (b : Int) * b else if sx * sx + sy * sy ≤ ox * sx + oy * sy then (ox - sx) * (ox - sx) + (oy - sy) * (oy - sy) ≤ (b : Int) * b else (ox * sy - oy * sx) * (ox * sy - oy * sx) ≤ (b : Int) * b * (sx * sx + sy * sy)
def byP (a : Ab) (i s t c b : Nat) : Prop := byQ ((aX a i t : Int) - aX a i s) ((aY a i t : Int) - aY a i s) ((aX a i c : Int) - aX a i s) ((aY a i c : Int) - aY a i s) b
def stepP (a : Ab) (i b s t : Nat) : Prop := ∀ c, s < c → c < t → byP a i s t c b
theorem ab_le {z : Int} {n : Nat} (h : z.natAbs ≤ n) : -(n : Int) ≤ z ∧ z ≤ n := by omega
/-- the bounds that every product keeps -/
theorem by_bd {sx sy ox oy : Int} {b : Nat} (h1 : sx.natAbs ≤ 23) (h2 : sy.natAbs ≤ 23) (h3 : ox.natAbs ≤ 23) (h4 : oy.natAbs ≤ 23) (hb : b ≤ 30) : (-529 ≤ sx * sx ∧ sx * sx ≤ 529) ∧ (-529 ≤ sy * sy ∧ sy * sy ≤ 529) ∧ (-529 ≤ ox * sx ∧ ox * sx ≤ 529) ∧ (-529 ≤ oy * sy ∧ oy * sy ≤ 529) ∧ (-529 ≤ ox * ox ∧ ox * ox ≤ 529) ∧ (-529 ≤ oy * oy ∧ oy * oy ≤ 529) ∧ (-2116 ≤ (ox - sx) * (ox - sx) ∧ (ox - sx) * (ox - sx) ≤ 2116) ∧ (-2116 ≤ (oy - sy) * (oy - sy) ∧ (oy - sy) * (oy - sy) ≤ 2116) ∧ (-900 ≤ (b : Int) * b ∧ (b : Int) * b ≤ 900) ∧ (-952200 ≤ (b : Int) * b * (sx * sx + sy * sy) ∧ (b : Int) * b * (sx * sx + sy * sy) ≤ 952200) ∧ (-1058 ≤ ox * sy - oy * sx ∧ ox * sy - oy * sx ≤ 1058) ∧ (-1119364 ≤ (ox * sy - oy * sx) * (ox * sy - oy * sx) ∧ (ox * sy - oy * sx) * (ox * sy - oy * sx) ≤ 1119364) := by
  have m1 := mulB h1 h1
  have m2 := mulB h2 h2
  have m3 := mulB h3 h1
  have m4 := mulB h4 h2
  have m5 := mulB h3 h3
  have m6 := mulB h4 h4
  have e1 : (ox - sx).natAbs ≤ 46 := by clear m1 m2 m3 m4 m5 m6; omega
  have e2 : (oy - sy).natAbs ≤ 46 := by clear m1 m2 m3 m4 m5 m6; omega
  have m7 := mulB e1 e1
  have m8 := mulB e2 e2
  have eb : (b : Int).natAbs ≤ 30 := hb
  have m9 := mulB eb eb
  have e3 : (sx * sx + sy * sy).natAbs ≤ 1058 := Nat.le_trans (Int.natAbs_add_le _ _) (Nat.add_le_add m1 m2)
  have m10 := mulB m9 e3
  have m11 := mulB h3 h2
  have m12 := mulB h4 h1
  have e4 : (ox * sy - oy * sx).natAbs ≤ 1058 := Nat.le_trans (Int.natAbs_sub_le _ _) (Nat.add_le_add m11 m12)
  have m13 := mulB e4 e4
  exact ⟨ab_le m1, ab_le m2, ab_le m3, ab_le m4, ab_le m5, ab_le m6, ab_le m7, ab_le m8, ab_le m9, ab_le m10, ab_le e4, ab_le m13⟩
set_option maxHeartbeats 1000000 in
theorem s_X4_isWithin (d k : Nat) (hk : tk_sh k = tk_shape) (a : Ab) (i : Nat) (hW : WFs a i) (σ : tk_S) (hC : xco a σ k i) (s t c b : Nat) (hs : s < aNc a i) (ht : t < aNc a i) (hc : c < aNc a i) (hb : b ≤ 30) (Q : Int32 → tk_S → Prop) (h : Q (b2i (pB (byP a i s t c b))) σ) : p_X4_isWithin d [aN k, aI (nI c), aI (nI s), aI (nI t), aI (nI b)] σ Q := by
  have w5 := hW.2.2.2.2.1
  have vp : ∀ {x}, x < aNc a i → vp_in (nI x) 8 := fun h => vp_in_nI (by omega) (by omega)
  have qs := hW.2.2.2.2.2.1 s hs
  have qt := hW.2.2.2.2.2.1 t ht
  have qc := hW.2.2.2.2.2.1 c hc
  have cs := hC.2.2 s hs
  have ct := hC.2.2 t ht
  have cc := hC.2.2 c hc
  refine e_X4_isWithin d k _ _ _ _ (b_X4_isWithin_0 d k hk _ _ _ _ σ Q ⟨vp ht, vp hs, fun z3 e3 => ⟨vp ht, vp hs, fun z6 e6 => ⟨vp hc, vp hs, fun z9 e9 => ⟨vp hc, vp hs, fun z12 e12 z13 e13 z14 e14 z15 e15 => ?_⟩⟩⟩⟩)
  rw [nI_clamp (by omega), nI_clamp (by omega), ct.1, cs.1, nI_iI, nI_iI, iI_sub] at e3
  rw [nI_clamp (by omega), nI_clamp (by omega), ct.2, cs.2, nI_iI, nI_iI, iI_sub] at e6
  rw [nI_clamp (by omega), nI_clamp (by omega), cc.1, cs.1, nI_iI, nI_iI, iI_sub] at e9
  rw [nI_clamp (by omega), nI_clamp (by omega), cc.2, cs.2, nI_iI, nI_iI, iI_sub] at e12
  unfold byP at h
  have b1 : ((aX a i t : Int) - aX a i s).natAbs ≤ 23 := by omega
  have b2 : ((aY a i t : Int) - aY a i s).natAbs ≤ 23 := by omega
  have b3 : ((aX a i c : Int) - aX a i s).natAbs ≤ 23 := by omega
  have b4 : ((aY a i c : Int) - aY a i s).natAbs ≤ 23 := by omega
  generalize ((aX a i t : Int) - aX a i s) = sx at *
  generalize ((aY a i t : Int) - aY a i s) = sy at *
  generalize ((aX a i c : Int) - aX a i s) = ox at *
  generalize ((aY a i c : Int) - aY a i s) = oy at *
  obtain ⟨⟨p1, q1⟩, ⟨p2, q2⟩, ⟨p3, q3⟩, ⟨p4, q4⟩, ⟨p5, q5⟩, ⟨p6, q6⟩, ⟨p7, q7⟩, ⟨p8, q8⟩, ⟨p9, q9⟩, ⟨p10, q10⟩, ⟨p11, q11⟩, ⟨p12, q12⟩⟩ := by_bd b1 b2 b3 b4 hb
  clear b1 b2 b3 b4 qs qt qc cs ct cc
  rw [e3, e6, iI_mul, iI_mul, iI_add] at e13
  rw [e9, e3, e12, e6, iI_mul, iI_mul, iI_add] at e14
  rw [nI_iI, iI_mul] at e15
  subst e3; subst e6; subst e9; subst e12; subst e13; subst e14; subst e15
  have yes : byQ sx sy ox oy b → Q 1 σ := fun q => by rw [pB_t.mpr q] at h; exact h
  have no : ¬ byQ sx sy ox oy b → Q 0 σ := fun q => by rw [pB_f.mpr q] at h; exact h
  have z0 : (0 : Int32) = iI 0 := rfl
  unfold byQ at yes no
  refine ⟨fun c1 => ⟨fun c2 z18 e18 => ?_, fun c2 z20 e20 z21 e21 => ?_⟩, fun c1 => ?_⟩
  · rw [z0, iI_lt (by omega) (by omega) (by omega) (by omega)] at c1
    rw [iI_lt (by omega) (by omega) (by omega) (by omega)] at c2
    rw [iI_mul, iI_mul, iI_sub] at e18
    subst e18
    rw [iI_mul, iI_mul, iI_lt (by omega) (by omega) (by omega) (by omega)]
    rw [if_neg (by omega), if_neg (by omega)] at yes no
    exact ⟨fun q => no (by omega), fun q => yes (by omega)⟩
  · rw [z0, iI_lt (by omega) (by omega) (by omega) (by omega)] at c1
    rw [iI_lt (by omega) (by omega) (by omega) (by omega)] at c2
    rw [iI_sub] at e20 e21
    subst e20; subst e21
    rw [iI_mul, iI_mul, iI_add, iI_lt (by omega) (by omega) (by omega) (by omega)]
    rw [if_neg (by omega), if_pos (by omega)] at yes no
    exact ⟨fun q => no (by omega), fun q => yes (by omega)⟩
  · rw [z0, iI_lt (by omega) (by omega) (by omega) (by omega)] at c1
    rw [iI_mul, iI_mul, iI_add, iI_lt (by omega) (by omega) (by omega) (by omega)]
    rw [if_pos (by omega)] at yes no
    exact ⟨fun q => no (by omega), fun q => yes (by omega)⟩
set_option maxHeartbeats 1000000 in
theorem s_X8_isBy (d : Nat) (a : Ab) (i : Nat) (hi : i < 12) (hW : WFs a i) (σ : tk_S) (hC : mco a σ i) (s t c b : Nat) (hs : s < aNc a i) (ht : t < aNc a i) (hc : c < aNc a i) (hb : b ≤ 30) (Q : Int32 → tk_S → Prop) (h : Q (b2i (pB (byP a i s t c b))) σ) : p_X8_isBy d [aN 132, aI (nI i), aI (nI s), aI (nI t), aI (nI c), aI (nI b)] σ Q := by
  have w5 := hW.2.2.2.2.1
  have vp : ∀ {x}, x < aNc a i → vp_in (8 * nI i + nI x) 96 := fun h => by rw [ix8]; exact vp_in_nI (by omega) (by omega)
  have qs := hW.2.2.2.2.2.1 s hs
  have qt := hW.2.2.2.2.2.1 t ht
  have qc := hW.2.2.2.2.2.1 c hc
  have cs := hC.2.2 s hs
  have ct := hC.2.2 t ht
  have cc := hC.2.2 c hc
  refine e_X8_isBy d _ _ _ _ _ (b_X8_isBy_0 d _ _ _ _ _ σ Q ⟨vp hs, fun z2 e2 => ⟨vp hs, fun z4 e4 => ⟨vp ht, fun z6 e6 => ⟨vp ht, fun z8 e8 => ⟨vp hc, fun z10 e10 => ⟨vp hc, fun z12 e12 z13 e13 z14 e14 => ?_⟩⟩⟩⟩⟩⟩)
  rw [ix8, nI_clamp (by omega), cs.1, nI_iI] at e2
  rw [ix8, nI_clamp (by omega), cs.2, nI_iI] at e4
  rw [ix8, nI_clamp (by omega), ct.1, nI_iI, e2, iI_sub] at e6
  rw [ix8, nI_clamp (by omega), ct.2, nI_iI, e4, iI_sub] at e8
  rw [ix8, nI_clamp (by omega), cc.1, nI_iI, e2, iI_sub] at e10
  rw [ix8, nI_clamp (by omega), cc.2, nI_iI, e4, iI_sub] at e12
  unfold byP at h
  have b1 : ((aX a i t : Int) - aX a i s).natAbs ≤ 23 := by omega
  have b2 : ((aY a i t : Int) - aY a i s).natAbs ≤ 23 := by omega
  have b3 : ((aX a i c : Int) - aX a i s).natAbs ≤ 23 := by omega
  have b4 : ((aY a i c : Int) - aY a i s).natAbs ≤ 23 := by omega
  generalize ((aX a i t : Int) - aX a i s) = sx at *
  generalize ((aY a i t : Int) - aY a i s) = sy at *
  generalize ((aX a i c : Int) - aX a i s) = ox at *
  generalize ((aY a i c : Int) - aY a i s) = oy at *
  obtain ⟨⟨p1, q1⟩, ⟨p2, q2⟩, ⟨p3, q3⟩, ⟨p4, q4⟩, ⟨p5, q5⟩, ⟨p6, q6⟩, ⟨p7, q7⟩, ⟨p8, q8⟩, ⟨p9, q9⟩, ⟨p10, q10⟩, ⟨p11, q11⟩, ⟨p12, q12⟩⟩ := by_bd b1 b2 b3 b4 hb
  clear b1 b2 b3 b4 qs qt qc cs ct cc
  rw [e6, e8, iI_mul, iI_mul, iI_add] at e13
  rw [e6, e8, e10, e12, iI_mul, iI_mul, iI_add, Int.mul_comm sx ox, Int.mul_comm sy oy] at e14
  subst e6; subst e8; subst e10; subst e12; subst e13; subst e14
  have yes : byQ sx sy ox oy b → Q 1 σ := fun q => by rw [pB_t.mpr q] at h; exact h
  have no : ¬ byQ sx sy ox oy b → Q 0 σ := fun q => by rw [pB_f.mpr q] at h; exact h
  have z0 : (0 : Int32) = iI 0 := rfl
  unfold byQ at yes no
  rw [nI_iI b]
  refine ⟨fun c1 => ⟨fun c2 z17 e17 => ?_, fun c2 => ?_⟩, fun c1 => ?_⟩
  · rw [z0, iI_lt (by omega) (by omega) (by omega) (by omega)] at c1
    rw [iI_lt (by omega) (by omega) (by omega) (by omega)] at c2
    rw [iI_mul, iI_mul, iI_sub, show sx * oy - sy * ox = -(ox * sy - oy * sx) by rw [Int.mul_comm sx oy, Int.mul_comm sy ox]; omega, iL_of (by omega) (by omega)] at e17
    subst e17
    rw [iL_mul, Int.neg_mul_neg, iL_of (by omega) (by omega), iL_mul, iL_of (by omega) (by omega), iL_mul, lg_cmp_gt, iL_lt (by omega) (by omega) (by omega) (by omega)]
    rw [if_neg (by omega), if_neg (by omega)] at yes no
    exact ⟨fun q => no (by omega), fun q => yes (by omega)⟩
  · rw [z0, iI_lt (by omega) (by omega) (by omega) (by omega)] at c1
    rw [iI_lt (by omega) (by omega) (by omega) (by omega)] at c2
    rw [iI_sub, iI_sub, iI_mul, iI_mul, iI_mul, iI_add, iI_lt (by omega) (by omega) (by omega) (by omega)]
    rw [if_neg (by omega), if_pos (by omega)] at yes no
    exact ⟨fun q => no (by omega), fun q => yes (by omega)⟩
  · rw [z0, iI_lt (by omega) (by omega) (by omega) (by omega)] at c1
    rw [iI_mul, iI_mul, iI_mul, iI_add, iI_lt (by omega) (by omega) (by omega) (by omega)]
    rw [if_pos (by omega)] at yes no
    exact ⟨fun q => no (by omega), fun q => yes (by omega)⟩
theorem s_X4_canStep (d k : Nat) (hk : tk_sh k = tk_shape) (a : Ab) (i : Nat) (hW : WFs a i) (σ : tk_S) (hC : xco a σ k i) (s t b : Nat) (hst : s < t) (ht : t < aNc a i) (hb : b ≤ 30) (Q : Int32 → tk_S → Prop) (h : Q (b2i (pB (stepP a i b s t))) σ) : p_X4_canStep (d + 1) [aN k, aI (nI s), aI (nI t), aI (nI b)] σ Q := by
  have w5 := hW.2.2.2.2.1
  refine e_X4_canStep (d + 1) k _ _ _ (b_X4_canStep_0 d k hk _ _ _ σ Q ?_)
  rw [nI_1]
  refine up_from (fun c => (∀ c', s < c' → c' < c → byP a i s t c' b) → g_X4_canStep (d + 1) 5 [(0, aN k), (1, aI (nI s)), (2, aI (nI t)), (3, aI (nI b)), (4, aI (nI c))] σ Q) t (s + 1) (by omega) ?_ ?_ (fun c' h1 h2 => by omega)
  · intro hq
    refine b_X4_canStep_5 d k hk _ _ _ _ σ Q ⟨fun _ => ?_, fun c => absurd ((le_nI (by omega) (by omega)).mpr (Nat.le_refl _)) c⟩
    have q : stepP a i b s t := hq
    rw [pB_t.mpr q] at h
    exact h
  · intro c h1 h2 ih hq
    refine b_X4_canStep_5 d k hk _ _ _ _ σ Q ⟨fun q => absurd ((le_nI (by omega) (by omega)).mp q) (by omega), fun _ => ?_⟩
    refine s_X4_isWithin d k hk a i hW σ hC s t c b (by omega) ht (by omega) hb _ ⟨fun q => ?_, fun q => ?_⟩
    · rw [nI_1]
      refine ih (fun c' h3 h4 => ?_)
      by_cases e : c' = c
      · subst e; exact pB_t.mp (b2i_n.mp q)
      · exact hq c' h3 (by omega)
    · have q2 : ¬ stepP a i b s t := fun z => pB_f.mp (b2i_0.mp q) (z c (by omega) h2)
      rw [pB_f.mpr q2] at h
      exact h
theorem s_X8_isStep (d : Nat) (a : Ab) (i : Nat) (hi : i < 12) (hW : WFs a i) (σ : tk_S) (hC : mco a σ i) (s t b : Nat) (hst : s < t) (ht : t < aNc a i) (hb : b ≤ 30) (Q : Int32 → tk_S → Prop) (h : Q (b2i (pB (stepP a i b s t))) σ) : p_X8_isStep (d + 1) [aN 132, aI (nI i), aI (nI s), aI (nI t), aI (nI b)] σ Q := by
  have w5 := hW.2.2.2.2.1
  refine e_X8_isStep (d + 1) _ _ _ _ (b_X8_isStep_0 d _ _ _ _ σ Q ?_)
  rw [nI_1]
  have L := up_from (fun c => g_X8_isStep (d + 1) 8 [(0, aN 132), (1, aI (nI i)), (2, aI (nI s)), (3, aI (nI t)), (4, aI (nI b)), (5, aI (b2i (pB (∀ c', s < c' → c' < c → byP a i s t c' b)))), (6, aI (nI c))] σ Q) t (s + 1) (by omega) ?_ ?_
  · rw [show pB (∀ c', s < c' → c' < s + 1 → byP a i s t c' b) = true from pB_t.mpr (fun c' h1 h2 => by omega)] at L
    exact L
  · exact b_X8_isStep_8 d _ _ _ _ _ _ σ Q ⟨fun _ => ⟨b2i_nar _, h⟩, fun c => absurd ((le_nI (by omega) (by omega)).mpr (Nat.le_refl _)) c⟩
  · intro c h1 h2 ih
    have nx : (∀ c', s < c' → c' < c + 1 → byP a i s t c' b) ↔ (∀ c', s < c' → c' < c → byP a i s t c' b) ∧ byP a i s t c b := by
      constructor
      · intro q; exact ⟨fun c' h3 h4 => q c' h3 (by omega), q c (by omega) (by omega)⟩
      · rintro ⟨q1, q2⟩ c' h3 h4
        by_cases e : c' = c
        · subst e; exact q2
        · exact q1 c' h3 (by omega)
    refine b_X8_isStep_8 d _ _ _ _ _ _ σ Q ⟨fun q => absurd ((le_nI (by omega) (by omega)).mp q) (by omega), fun _ => ⟨fun q => ?_, fun q => ?_⟩⟩
    · have q := pB_f.mp (b2i_0.mp q)
      rw [show pB (∀ c', s < c' → c' < c + 1 → byP a i s t c' b) = false from pB_f.mpr (fun z => q (nx.mp z).1)] at ih
      rw [nI_1]
      exact ih
    · have q := pB_t.mp (b2i_n.mp q)
      refine s_X8_isBy d a i hi hW σ hC s t c b (by omega) ht (by omega) hb _ ⟨fun q2 => ?_, fun q2 => ?_⟩
      · have q2 := pB_f.mp (b2i_0.mp q2)
        rw [show pB (∀ c', s < c' → c' < c + 1 → byP a i s t c' b) = false from pB_f.mpr (fun z => q2 (nx.mp z).2)] at ih
        rw [nI_1]
        exact ih
      · have q2 := pB_t.mp (b2i_n.mp q2)
        rw [show pB (∀ c', s < c' → c' < c + 1 → byP a i s t c' b) = true from pB_t.mpr (nx.mpr ⟨q, q2⟩)] at ih
        rw [nI_1]
        exact ih
