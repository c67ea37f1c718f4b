/-! KEPT: the class' way -/
def num (S : Nat → Bool) (n : Nat) : Nat := sumB S (fun i => 2 ^ i) n
theorem num_lt (S : Nat → Bool) : ∀ n, num S n < 2 ^ n := by
  intro n
  induction n with
  | zero => exact Nat.one_pos
  | succ n ih =>
    show num S n + (if S n then 2 ^ n else 0) < 2 ^ (n + 1)
    rw [Nat.pow_succ]
    split <;> omega
theorem num_bit (S : Nat → Bool) : ∀ n i, (num S n).testBit i = (decide (i < n) && S i) := by
  intro n
  induction n with
  | zero => intro i; show (0 : Nat).testBit i = _; simp
  | succ n ih =>
    intro i
    have hl := num_lt S n
    have e : num S (n + 1) = 2 ^ n * (if S n then 1 else 0) + num S n := by
      show num S n + (if S n then 2 ^ n else 0) = _
      split <;> omega
    rw [e, Nat.testBit_two_pow_mul_add _ hl, ih i]
    by_cases h : i < n
    · rw [if_pos h]; simp [h, Nat.lt_succ_of_lt h]
    · rw [if_neg h]
      by_cases h2 : i = n
      · subst h2
        cases S i <;> simp
      · have : ¬ i < n + 1 := by omega
        have h3 : i - n ≠ 0 := by omega
        cases e2 : S n
        · simp [this]
        · simp only [if_true, this, decide_false, Bool.false_and]
          rw [Nat.testBit_lt_two_pow (Nat.one_lt_two_pow h3)]
theorem bit_ext {x y n : Nat} (hx : x < 2 ^ n) (hy : y < 2 ^ n) (h : ∀ i, i < n → x.testBit i = y.testBit i) : x = y := by
  apply Nat.eq_of_testBit_eq
  intro i
  by_cases hi : i < n
  · exact h i hi
  · rw [Nat.testBit_lt_two_pow (Nat.lt_of_lt_of_le hx (Nat.pow_le_pow_right (by omega) (by omega))), Nat.testBit_lt_two_pow (Nat.lt_of_lt_of_le hy (Nat.pow_le_pow_right (by omega) (by omega)))]
/-- the class' weight of a shape -/
def kW (a : Ab) (i : Nat) : Nat := aWo a i * 65536 + 4096 - 2 ^ i
theorem kW_sum (a : Ab) (S : Nat → Bool) : ∀ n, n ≤ 12 → sumB S (kW a) n + num S n = sumB S (aWo a) n * 65536 + cnt S n * 4096 := by
  intro n
  induction n with
  | zero => intro _; simp [sumB, num, cnt]
  | succ n ih =>
    intro hn
    have := ih (by omega)
    have hp : 2 ^ n ≤ 2 ^ 11 := Nat.pow_le_pow_right (by omega) (by omega)
    show (sumB S (kW a) n + (if S n then kW a n else 0)) + (num S n + (if S n then 2 ^ n else 0)) = (sumB S (aWo a) n + (if S n then aWo a n else 0)) * 65536 + (cnt S n + (if S n then 1 else 0)) * 4096
    have ek : kW a n = aWo a n * 65536 + 4096 - 2 ^ n := rfl
    split <;> omega
theorem kept_of_max {a : Ab} (hn : aN0 a ≤ 12) {B : Nat → Nat → Bool} (hB : ∀ i, i < aN0 a → ∀ j, B i j = pB (j < aN0 a ∧ nearP a i j)) (hs : ∀ i j, i < aN0 a → j < aN0 a → nearP a i j → nearP a j i) {F : Nat → Bool} (hF : ∀ j, j < aN0 a → F j = true) {M : Nat} (h : isMax F B (kW a) (aN0 a) M) : ∃ S, isKept a S ∧ S < 4096 ∧ ∃ K, M + S = 4096 * K := by
  obtain ⟨⟨S, s1, s2⟩, h2⟩ := h
  have hp12 : 2 ^ aN0 a ≤ 2 ^ 12 := Nat.pow_le_pow_right (by omega) hn
  have hlt := num_lt S (aN0 a)
  have ks := kW_sum a S (aN0 a) hn
  have sS : ∀ i, S i = true → i < aN0 a := fun i hi => (s1 i hi).1
  have hbit : ∀ i, (num S (aN0 a)).testBit i = S i := fun i => by
    rw [num_bit]
    cases e : S i
    · simp
    · simp [sS i e]
  have irr : ∀ i, ¬ nearP a i i := fun i q => q.1 rfl
  have ok : setOK a (num S (aN0 a)) := by
    refine ⟨hlt, fun i j hi hj b1 b2 hnr => ?_⟩
    rw [hbit] at b1 b2
    rcases Nat.lt_trichotomy i j with q | q | q
    · have := (s1 j b2).2.2 i q b1
      rw [hB j hj i, pB_f] at this
      exact this ⟨hi, hs i j hi hj hnr⟩
    · subst q; exact irr i hnr
    · have := (s1 i b1).2.2 j q b2
      rw [hB i hi j, pB_f] at this
      exact this ⟨hj, hnr⟩
  have eW : setW a (num S (aN0 a)) = sumB S (aWo a) (aN0 a) := sumB_c (fun i _ => hbit i) (fun _ _ => rfl)
  have eC : setC a (num S (aN0 a)) = cnt S (aN0 a) := cnt_c (fun i _ => hbit i)
  refine ⟨num S (aN0 a), ⟨ok, fun T hT => ?_⟩, by omega, sumB S (aWo a) (aN0 a) * 16 + cnt S (aN0 a), by omega⟩
  have okT : okS F B (aN0 a) (fun i => T.testBit i) := by
    intro i hi
    have hi : T.testBit i = true := hi
    have hin : i < aN0 a := by
      rcases Nat.lt_or_ge i (aN0 a) with q | q
      · exact q
      · rw [Nat.testBit_lt_two_pow (Nat.lt_of_lt_of_le hT.1 (Nat.pow_le_pow_right (by omega) q))] at hi; cases hi
    refine ⟨hin, hF i hin, fun j hj hb => ?_⟩
    rw [hB i hin j]
    exact pB_f.mpr (fun q => hT.2 i j hin q.1 hi hb q.2)
  have hle := h2 _ okT
  have kt := kW_sum a (fun i => T.testBit i) (aN0 a) hn
  have eT : num (fun i => T.testBit i) (aN0 a) = T := bit_ext (num_lt _ _) hT.1 (fun i hi => by rw [num_bit]; simp [hi])
  rw [eT] at kt
  have hT1 := hT.1
  have c1 := cnt_n (fun i => T.testBit i) (aN0 a)
  have c2 := cnt_n S (aN0 a)
  unfold setGE
  rw [eW, eC]
  show sumB (fun i => T.testBit i) (aWo a) (aN0 a) < _ ∨ (sumB (fun i => T.testBit i) (aWo a) (aN0 a) = _ ∧ (cnt (fun i => T.testBit i) (aN0 a) < _ ∨ (cnt (fun i => T.testBit i) (aN0 a) = _ ∧ _)))
  generalize sumB (fun i => T.testBit i) (aWo a) (aN0 a) = wt at *
  generalize cnt (fun i => T.testBit i) (aN0 a) = ct at *
  generalize sumB (fun i => T.testBit i) (kW a) (aN0 a) = kt' at *
  omega
theorem near_sym {a : Ab} (hw : WF a) {i j : Nat} (hi : i < aN0 a) (hj : j < aN0 a) (h : nearP a i j) : nearP a j i := ⟨fun q => h.1 q.symm, by rw [← (hw.2.2.2.2.2.2.1 i j hi hj).2]; exact h.2.1, reach_sym h.2.2⟩
theorem neg_low {M S K : Nat} (hM : M < 2 ^ 31) (hS : S < 4096) (h : M + S = 4096 * K) : -nI M &&& 4095 = nI S := by
  rw [pk_and _ 12 (by decide)]
  congr 1
  have e : (-nI M).toBitVec.toNat = (2 ^ 32 - M % 2 ^ 32) % 2 ^ 32 := by
    show (-(nI M).toBitVec).toNat = _
    rw [BitVec.toNat_neg]
    rfl
  rw [e]
  omega
theorem shl16 (w : Nat) (hw : w ≤ 9) : nI w <<< ((16 : Int32) &&& 31) = nI (w * 65536) := pk_shlN _ 16 (by decide) (by omega)
theorem shl1 : ∀ i, i < 12 → (1 : Int32) <<< (nI i &&& 31) = nI (2 ^ i) := by decide +kernel
theorem rd_s' {σ : tk_S} {K J : Nat} {x : Int32} : (tk_up σ K J x).1 K J = x := by rw [tk_up_at, if_pos ⟨rfl, rfl⟩]
set_option maxHeartbeats 1000000 in
theorem s_X1_choose (d : Nat) (a : Ab) (hw : WF a) (σ : tk_S) (hwo : ∀ i, i < aN0 a → σ.1 (72 + 5 * i) 1 = nI (aWo a i)) (hnr : nearC a σ 51 (aN0 a)) (Q : tk_S → Prop) (h : ∀ σ' S, Fr (fun k _ => k = 23 ∨ k = 24) σ σ' → σ'.2 = σ.2 → isKept a S → S < 4096 → σ'.1 23 1 = nI S → Q σ') : p_X1_choose (d + 14) [aN 23, aN 1, aN 51, aI (nI (aN0 a))] σ Q := by
  have hn12 := hw.1
  refine e_X1_choose (d + 14) _ (b_X1_choose_0 (d + 13) _ σ Q ?_)
  have L := up_loop (fun i => g_X1_choose (d + 14) 3 [(0, aN 23), (1, aN 1), (2, aN 51), (3, aI (nI (aN0 a))), (4, aI (nI i))] (tk_fill σ 24 i (fun i => nI (kW a i))) Q) (aN0 a) ?_ ?_
  · rw [tk_fill_0] at L
    exact L
  · refine b_X1_choose_3 (d + 13) _ _ _ Q ⟨fun _ => ?_, fun c => absurd ((le_nI (by omega) (by omega)).mpr (Nat.le_refl _)) c⟩
    generalize e1 : tk_fill σ 24 (aN0 a) (fun i => nI (kW a i)) = σ1
    have r1 : ∀ k j, k ≠ 24 → σ1.1 k j = σ.1 k j := fun k j hk => by rw [← e1, tk_fill_o _ _ _ hk]
    have w1 : ∀ i, i < aN0 a → σ1.1 24 i = nI (kW a i) ∧ kW a i ≤ 1048576 := fun i hi => by
      rw [← e1, tk_fill_s]
      have := (hw.2.2.2.2.2.1 i hi).2.2.1
      refine ⟨if_pos hi, ?_⟩
      exact Nat.le_trans (Nat.sub_le _ _) (by omega)
    obtain ⟨d', hd'⟩ : ∃ d', d + 13 = d' + aN0 a + 1 := ⟨d + 12 - aN0 a, by omega⟩
    rw [hd']
    refine s_heaviest σ1 51 24 rfl rfl (kW a) (aN0 a) hn12 w1 (aN0 a) (Nat.le_refl _) d' _ _ (fun M hM hmx => ?_)
    obtain ⟨S, k1, k2, K, k3⟩ := kept_of_max hn12 (B := fun i j => bt (σ1.1 51 i) j) (fun i hi j => by rw [r1 51 i (by omega)]; exact hnr i hi j) (fun i j hi hj => near_sym hw hi hj) (fun j hj => by rw [mask_n _ (by omega) j (by omega), decide_eq_true hj]) hmx
    have hM2 : aN0 a * 1048576 ≤ 12 * 1048576 := Nat.mul_le_mul_right _ hn12
    rw [neg_low (by omega) k2 k3]
    refine h _ S (fun k j hk => ?_) (by rw [← e1]; rfl) k1 k2 rd_s'
    rw [rd_o' (fun q => hk (Or.inl q.1)), r1 k j (fun q => hk (Or.inr q))]
  · intro i hi ih
    have wi := (hw.2.2.2.2.2.1 i hi)
    have hp : 2 ^ i ≤ 2 ^ 11 := Nat.pow_le_pow_right (by omega) (by omega)
    refine b_X1_choose_3 (d + 13) _ _ _ Q ⟨fun c => absurd ((le_nI (by omega) (by omega)).mp c) (by omega), fun _ => ⟨vp_in_nI (by omega) (by omega), vp_in_nI (by omega) (by omega), ?_⟩⟩
    rw [nI_clamp (by omega), nI_1, tk_fill_up _ _ _ _ (by
      rw [tk_fill_o _ _ _ (by omega), show 1 + 71 + 5 * i = 72 + 5 * i by omega, hwo i hi, shl16 _ wi.2.2.1, shl1 i (by omega), show (4096 : Int32) = nI 4096 from rfl, nI_add, pk_sub (by omega)]
      rfl)]
    exact ih
theorem isKept_core {a : Ab} {S : Nat} (h : isKept a S) : isKept (core a) S := h
set_option maxHeartbeats 1000000 in
/-- what the class chooses, new or remembered -/
theorem s_X7_chosen (d : Nat) (a : Ab) (hw : WF a) (σ : tk_S) (hX : XI a σ) (hK : XK (core a) σ) (Q : Int32 → tk_S → Prop) (h : ∀ σ' S, Fr (fun k j => k = 23 ∨ k = 24 ∨ k = 51 ∨ (k = 0 ∧ j = 14)) σ σ' → isKept a S → XK (core a) σ' → Q (nI S) σ') : p_X7_chosen (d + 15) [aN 0] σ Q := by
  refine e_X7_chosen (d + 15) (b_X7_chosen_0 (d + 14) σ Q ⟨fun c => ?_, fun c => ?_⟩)
  · rcases hK.1 with q | ⟨q, S, s1, s2⟩
    · exact absurd q c
    · rw [s2]
      exact h σ S (Fr.rf σ) s1 hK
  · refine s_X7_near (d + 13) a hw σ hX _ (fun σ3 f3 g3 n3 => ?_)
    rw [f3 0 1 (by omega), hX.1]
    refine s_X1_choose d a hw σ3 (fun i hi => by rw [f3 _ _ (by omega)]; exact (hX.2.2.2.2.1 i hi).2.1) n3 _ (fun σ5 S f5 g5 k1 k2 k3 => ?_)
    rw [rd_o' (by omega), k3]
    refine h _ S (fun k j hk => ?_) k1 ⟨Or.inr ⟨rd_s', S, isKept_core k1, by rw [rd_o' (by omega)]; exact k3⟩, ?_, ?_⟩
    · rw [rd_o' (by omega), f5 k j (by omega), f3 k j (by omega)]
    · have e : ∀ k j, (k = 0 ∧ 15 ≤ j) ∨ (25 ≤ k ∧ k ≤ 30) → (tk_up σ5 0 14 1).1 k j = σ.1 k j := fun k j hk => by rw [rd_o' (by omega), f5 k j (by omega), f3 k j (by omega)]
      rw [e _ _ (by omega), e _ _ (by omega)]
      rcases hK.2.1 with q | ⟨q, m, c, q1, q2, q3⟩
      · exact Or.inl q
      · exact Or.inr ⟨q, m, c, q1, q2, fun i hi => by rw [e _ _ (by omega)]; exact q3 i hi⟩
    · have e : ∀ k j, (k = 0 ∧ 15 ≤ j) ∨ (25 ≤ k ∧ k ≤ 30) → (tk_up σ5 0 14 1).1 k j = σ.1 k j := fun k j hk => by rw [rd_o' (by omega), f5 k j (by omega), f3 k j (by omega)]
      rw [e _ _ (by omega), e _ _ (by omega), show (tk_up σ5 0 14 1).2 = σ.2 from g5.trans g3]
      exact hK.2.2
