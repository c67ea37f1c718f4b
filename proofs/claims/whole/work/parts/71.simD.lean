/-! SIMPLER: the reference's way -/
def seqP (st : Nat → Nat → Prop) (T : Nat → Bool) : Prop := ∀ s t, s < t → T s = true → T t = true → (∀ c, s < c → c < t → T c = false) → st s t
theorem b1n {b : Bool} : (if b = true then (1 : Int32) else 0) = 0 ↔ b = false := by cases b <;> decide
theorem bt2 {x y : Bool} : ((if x = true then (1 : Int32) else 0) = (if y = true then (1 : Int32) else 0)) ↔ x = y := by cases x <;> cases y <;> decide
theorem bt11 {x : Bool} : ((if x = true then (1 : Int32) else 0) = 1) ↔ x = true := by cases x <;> decide
set_option maxHeartbeats 1000000 in
theorem s_X8_keeps (d : Nat) (a : Ab) (i : Nat) (hi : i < 12) (hW : WFs a i) (σ : tk_S) (hC : mco a σ i) (b : Nat) (hb : b ≤ 30) (S : Nat) (hS : S < 2 ^ aNc a i) (h0 : S.testBit 0 = true) (Q : Int32 → tk_S → Prop) (h : Q (b2i (pB (seqP (stepP a i b) (fun c => S.testBit c)))) σ) : p_X8_keeps (d + 2) [aN 132, aI (nI i), aI (nI S), aI (nI b)] σ Q := by
  have w4 := hW.2.2.2.1
  have w5 := hW.2.2.2.2.1
  refine e_X8_keeps (d + 2) _ _ _ (b_X8_keeps_0 (d + 1) _ _ _ σ Q ?_)
  have L := up_from (fun c => ∀ last, last < c → S.testBit last = true → (∀ c', last < c' → c' < c → S.testBit c' = false) → (∀ s t, s < t → t < c → S.testBit s = true → S.testBit t = true → (∀ c', s < c' → c' < t → S.testBit c' = false) → stepP a i b s t) → g_X8_keeps (d + 2) 6 [(0, aN 132), (1, aI (nI i)), (2, aI (nI S)), (3, aI (nI b)), (4, aI (nI last)), (5, aI (nI c))] σ Q) (aNc a i) 1 w4 ?_ ?_
  · exact L 0 (by omega) h0 (fun c' h1 h2 => by omega) (fun s t h1 h2 => by omega)
  · intro last l1 l2 l3 l4
    refine b_X8_keeps_6 (d + 1) _ _ _ _ _ σ Q ⟨vp_in_nI hi (by omega), ?_⟩
    rw [nI_clamp (by omega), hC.2.1]
    refine ⟨fun _ => ?_, fun c => absurd ((le_nI (by omega) (by omega)).mpr (Nat.le_refl _)) c⟩
    have q : seqP (stepP a i b) (fun c => S.testBit c) := fun s t hst hs ht hg => by
      refine l4 s t hst ?_ hs ht hg
      rcases Nat.lt_or_ge t (aNc a i) with z | z
      · exact z
      · have ht : S.testBit t = true := ht
        rw [Nat.testBit_lt_two_pow (Nat.lt_of_lt_of_le hS (Nat.pow_le_pow_right (by omega) z))] at ht; cases ht
    rw [pB_t.mpr q] at h
    exact h
  · intro c h1 h2 ih last l1 l2 l3 l4
    refine b_X8_keeps_6 (d + 1) _ _ _ _ _ σ Q ⟨vp_in_nI hi (by omega), ?_⟩
    rw [nI_clamp (by omega), hC.2.1, bt_shr1 _ (by omega), bt_nI _ (by omega), b1n, nI_1]
    refine ⟨fun q => absurd ((le_nI (by omega) (by omega)).mp q) (by omega), fun _ => ⟨fun q => ?_, fun q => ?_⟩⟩
    · have q : S.testBit c = true := by cases z : S.testBit c; exact absurd z q; rfl
      refine s_X8_isStep d a i hi hW σ hC last c b l1 h2 hb _ ⟨fun z => ?_, fun z => ?_⟩
      · have z := pB_t.mp (b2i_n.mp z)
        refine ih c (by omega) q (fun c' h3 h4 => by omega) (fun s t hst htc hs ht hg => ?_)
        rcases Nat.lt_or_ge t c with y | y
        · exact l4 s t hst y hs ht hg
        · have et : t = c := by omega
          subst et
          have es : s = last := by
            rcases Nat.lt_trichotomy s last with v | v | v
            · rw [hg last v l1] at l2; cases l2
            · exact v
            · rw [l3 s v hst] at hs; cases hs
          rw [es]; exact z
      · have z := pB_f.mp (b2i_0.mp z)
        have nq : ¬ seqP (stepP a i b) (fun c => S.testBit c) := fun y => z (y last c l1 l2 q l3)
        rw [pB_f.mpr nq] at h
        exact h
    · refine ih last (by omega) l2 (fun c' h3 h4 => ?_) (fun s t hst htc hs ht hg => ?_)
      · by_cases e : c' = c
        · subst e; exact q
        · exact l3 c' h3 (by omega)
      · refine l4 s t hst ?_ hs ht hg
        by_cases e : t = c
        · subst e; rw [q] at ht; cases ht
        · omega
theorem ahd_tr {S T U : Nat → Bool} (h : ahd S T) (h2 : ahd T U) : ahd S U := by
  obtain ⟨c, a1, a2, a3⟩ := h
  obtain ⟨e, b1, b2, b3⟩ := h2
  rcases Nat.lt_trichotomy c e with q | q | q
  · exact ⟨c, a1, by rw [← b3 c q]; exact a2, fun c' hc => by rw [a3 c' hc, b3 c' (by omega)]⟩
  · subst q; rw [a2] at b1; cases b1
  · exact ⟨e, by rw [a3 e q]; exact b1, b2, fun c' hc => by rw [a3 c' (by omega), b3 c' hc]⟩
theorem ahd_c {S T U : Nat → Bool} (h : ahd S T) (h2 : ∀ c, T c = U c) : ahd S U := by
  rw [← show T = U from funext h2]; exact h
theorem ahd_tot {S T : Nat → Bool} {n : Nat} (hS : ∀ c, n ≤ c → S c = T c) : (∀ c, S c = T c) ∨ ahd S T ∨ ahd T S := by
  have : ∀ m, (∀ c, c < m → S c = T c) ∨ ∃ c, S c ≠ T c ∧ ∀ c', c' < c → S c' = T c' := by
    intro m
    induction m with
    | zero => exact Or.inl (fun c h => by omega)
    | succ m ih =>
      rcases ih with q | q
      · by_cases e : S m = T m
        · refine Or.inl (fun c hc => ?_)
          by_cases z : c = m
          · subst z; exact e
          · exact q c (by omega)
        · exact Or.inr ⟨m, e, q⟩
      · exact Or.inr q
  rcases this n with q | ⟨c, q1, q2⟩
  · refine Or.inl (fun c => ?_)
    rcases Nat.lt_or_ge c n with z | z
    · exact q c z
    · exact hS c z
  · cases e : S c
    · refine Or.inr (Or.inr ⟨c, ?_, e, fun c' hc => (q2 c' hc).symm⟩)
      cases z : T c
      · rw [e, z] at q1; exact absurd rfl q1
      · rfl
    · refine Or.inr (Or.inl ⟨c, e, ?_, q2⟩)
      cases z : T c
      · rfl
      · rw [e, z] at q1; exact absurd rfl q1
theorem s_X8_isAhead (d S T : Nat) (hS : S < 2 ^ 12) (hT : T < 2 ^ 12) (σ : tk_S) (Q : Int32 → tk_S → Prop) (h : Q (b2i (pB (ahd (fun c => S.testBit c) (fun c => T.testBit c)))) σ) : p_X8_isAhead d [aI (nI S), aI (nI T)] σ Q := by
  refine e_X8_isAhead d _ _ (b_X8_isAhead_0 d _ _ σ Q ?_)
  have hi : ∀ {c}, 12 ≤ c → S.testBit c = T.testBit c := fun {c} hc => by
    rw [Nat.testBit_lt_two_pow (Nat.lt_of_lt_of_le hS (Nat.pow_le_pow_right (by omega) hc)), Nat.testBit_lt_two_pow (Nat.lt_of_lt_of_le hT (Nat.pow_le_pow_right (by omega) hc))]
  have L := up_loop (fun k => (∀ c, c < k → S.testBit c = T.testBit c) → g_X8_isAhead d 2 [(0, aI (nI S)), (1, aI (nI T)), (2, aI (nI k))] σ Q) 12 ?_ ?_
  · exact L (fun c hc => by omega)
  · intro hq
    refine b_X8_isAhead_2 d _ _ _ σ Q ⟨fun _ => b_X8_isAhead_27 d _ _ σ Q ⟨fun _ => ?_, fun c => absurd (by decide) c⟩, fun c => absurd (by decide) c⟩
    have nq : ¬ ahd (fun c => S.testBit c) (fun c => T.testBit c) := by
      rintro ⟨c, a1, a2, a3⟩
      have : S.testBit c = T.testBit c := by
        rcases Nat.lt_or_ge c 12 with z | z
        · exact hq c z
        · exact hi z
      simp only at a1 a2
      rw [this, a2] at a1; cases a1
    rw [pB_f.mpr nq] at h
    exact h
  · intro k hk ih hq
    refine b_X8_isAhead_2 d _ _ _ σ Q ⟨fun c => absurd ((le_nI (n := 12) (by omega) (by omega)).mp c) (by omega), fun c12 => ?_⟩
    rw [bt_shr1 _ (by omega), bt_shr1 _ (by omega), bt_nI _ (by omega), bt_nI _ (by omega), bt2, nI_1]
    refine ⟨fun q => b_X8_isAhead_27 d _ _ σ Q ⟨fun c => absurd c c12, fun _ => ?_⟩, fun q => ih (fun c hc => ?_)⟩
    · rw [bt_shr1 _ (by omega), bt_nI _ (by omega), bt11]
      refine ⟨fun z => ?_, fun z => ?_⟩
      · have nq : ¬ ahd (fun c => S.testBit c) (fun c => T.testBit c) := by
          rintro ⟨c, a1, a2, a3⟩
          simp only at a1 a2 a3
          rcases Nat.lt_trichotomy c k with v | v | v
          · rw [hq c v, a2] at a1; cases a1
          · subst v; exact z a1
          · exact q (a3 k v)
        rw [pB_f.mpr nq] at h
        exact h
      · have yq : ahd (fun c => S.testBit c) (fun c => T.testBit c) := by
          refine ⟨k, z, ?_, hq⟩
          show T.testBit k = false
          cases v : T.testBit k
          · rfl
          · rw [z, v] at q; exact absurd rfl q
        rw [pB_t.mpr yq] at h
        exact h
    · by_cases e : c = k
      · subst e; exact q
      · exact hq c (by omega)
/-- the best of the sets below U -/
def bestS (st : Nat → Nat → Prop) (n U S : Nat) : Prop := S < 2 ^ n ∧ okC st n 0 (fun c => S.testBit c) ∧ ∀ T, T < U → okC st n 0 (fun c => T.testBit c) → cnt (fun c => S.testBit c) n < cnt (fun c => T.testBit c) n ∨ (cnt (fun c => S.testBit c) n = cnt (fun c => T.testBit c) n ∧ ((∀ c, S.testBit c = T.testBit c) ∨ ahd (fun c => S.testBit c) (fun c => T.testBit c)))
theorem sim_of_best {st : Nat → Nat → Prop} {n S : Nat} (h : bestS st n (2 ^ n) S) : simB st n 0 (fun c => S.testBit c) := by
  refine ⟨h.2.1, fun T hT => ?_⟩
  have e : ∀ c, (num T n).testBit c = T c := fun c => by
    rw [num_bit]
    cases z : T c
    · simp
    · simp [(hT.1 c z).2]
  have := h.2.2 (num T n) (num_lt T n) (by rw [show (fun c => (num T n).testBit c) = T from funext e]; exact hT)
  rw [show (fun c => (num T n).testBit c) = T from funext e] at this
  rcases this with q | ⟨q, q2 | q2⟩
  · exact Or.inl q
  · exact Or.inr ⟨q, Or.inl (fun c => (q2 c).trans (e c))⟩
  · exact Or.inr ⟨q, Or.inr q2⟩
theorem ok_full {a : Ab} {i b n : Nat} (hn : 1 ≤ n) : okC (stepP a i b) n 0 (fun c => (2 ^ n - 1).testBit c) := by
  have e : ∀ c, (2 ^ n - 1).testBit c = decide (c < n) := fun c => by rw [Nat.testBit_two_pow_sub_one]
  refine ⟨fun c hc => ?_, ?_, ?_, fun s t hst hs ht hg c h1 h2 => ?_⟩
  · simp only [e] at hc
    exact ⟨by omega, of_decide_eq_true hc⟩
  · show (2 ^ n - 1).testBit 0 = true
    rw [e]; exact decide_eq_true (by omega)
  · show (2 ^ n - 1).testBit (n - 1) = true
    rw [e]; exact decide_eq_true (by omega)
  · have := hg c h1 h2
    simp only [e] at this ht
    have h3 := of_decide_eq_true ht
    have h4 := of_decide_eq_false this
    omega
theorem cnt_8 {n S : Nat} (hn : n ≤ 8) (hS : S < 2 ^ n) : cnt (fun c => S.testBit c) 12 = cnt (fun c => S.testBit c) n := cnt_up _ (by omega) (fun i h1 _ => Nat.testBit_lt_two_pow (Nat.lt_of_lt_of_le hS (Nat.pow_le_pow_right (by omega) h1)))
theorem shl_9 : ∀ n, n < 9 → (1 : Int32) <<< (nI n &&& 31) = nI (2 ^ n) := by decide +kernel
theorem ends_e : ∀ n, n < 9 → 1 ≤ n → (1 : Int32) ||| ((1 : Int32) <<< (nI (n - 1) &&& 31)) = nI (1 ||| 2 ^ (n - 1)) := by decide +kernel
theorem and_ends {S n : Nat} (h1 : 1 ≤ n) : S &&& (1 ||| 2 ^ (n - 1)) = (1 ||| 2 ^ (n - 1)) ↔ S.testBit 0 = true ∧ S.testBit (n - 1) = true := by
  have tb : ∀ c, (1 ||| 2 ^ (n - 1)).testBit c = (decide (c = 0) || decide (c = n - 1)) := fun c => by
    rw [Nat.testBit_or, show (1 : Nat) = 2 ^ 0 from rfl, Nat.testBit_two_pow, Nat.testBit_two_pow]
    congr 1
    · exact decide_eq_decide.mpr ⟨fun q => by omega, fun q => by omega⟩
    · exact decide_eq_decide.mpr ⟨fun q => by omega, fun q => by omega⟩
  constructor
  · intro h
    have k : ∀ c, (c = 0 ∨ c = n - 1) → S.testBit c = true := fun c hc => by
      have := congrArg (fun x => x.testBit c) h
      simp only [Nat.testBit_and, tb] at this
      have e : (decide (c = 0) || decide (c = n - 1)) = true := by
        rcases hc with q | q <;> simp [q]
      rw [e, Bool.and_true] at this
      exact this
    exact ⟨k 0 (Or.inl rfl), k (n - 1) (Or.inr rfl)⟩
  · rintro ⟨q1, q2⟩
    apply Nat.eq_of_testBit_eq
    intro c
    rw [Nat.testBit_and, tb]
    by_cases e0 : c = 0
    · subst e0; rw [q1]; simp
    · by_cases e1 : c = n - 1
      · rw [e1, q2]; simp
      · simp [e0, e1]
set_option maxHeartbeats 2000000 in
theorem s_X8_simpler (d : Nat) (a : Ab) (i : Nat) (hi : i < 12) (hW : WFs a i) (σ : tk_S) (hC : mco a σ i) (b : Nat) (hb : b ≤ 30) (Q : Int32 → tk_S → Prop) (h : ∀ S, S < 2 ^ aNc a i → simB (stepP a i b) (aNc a i) 0 (fun c => S.testBit c) → Q (nI S) σ) : p_X8_simpler (d + 3) [aN 132, aI (nI i), aI (nI b)] σ Q := by
  have w4 := hW.2.2.2.1
  have w5 := hW.2.2.2.2.1
  have hp : 2 ^ aNc a i ≤ 2 ^ 8 := Nat.pow_le_pow_right (by omega) w5
  have hp0 : 0 < 2 ^ aNc a i := Nat.two_pow_pos _
  refine e_X8_simpler (d + 3) _ _ (b_X8_simpler_0 (d + 2) _ _ σ Q ⟨vp_in_nI hi (by omega), fun z2 e2 => ?_⟩)
  rw [nI_clamp (by omega), hC.2.1, show (1 : Int32) = nI 1 from rfl, pk_sub w4, show nI 1 = (1 : Int32) from rfl, ends_e _ (by omega) w4] at e2
  subst e2
  have ok_iff : ∀ U, U < 2 ^ aNc a i → (okC (stepP a i b) (aNc a i) 0 (fun c => U.testBit c) ↔ (U.testBit 0 = true ∧ U.testBit (aNc a i - 1) = true) ∧ seqP (stepP a i b) (fun c => U.testBit c)) := by
    intro U hU
    refine ⟨fun q => ⟨⟨q.2.1, q.2.2.1⟩, q.2.2.2⟩, fun q => ⟨fun c hc => ⟨by omega, ?_⟩, q.1.1, q.1.2, q.2⟩⟩
    rcases Nat.lt_or_ge c (aNc a i) with z | z
    · exact z
    · simp only at hc
      rw [Nat.testBit_lt_two_pow (Nat.lt_of_lt_of_le hU (Nat.pow_le_pow_right (by omega) z))] at hc; cases hc
  have L := up_loop (fun U => ∀ x4 : Int32, ((x4 = -1 ∧ ∀ T, T < U → ¬ okC (stepP a i b) (aNc a i) 0 (fun c => T.testBit c)) ∨ ∃ S, x4 = nI S ∧ bestS (stepP a i b) (aNc a i) U S) → g_X8_simpler (d + 3) 19 [(0, aN 132), (1, aI (nI i)), (2, aI (nI b)), (3, aI (nI (1 ||| 2 ^ (aNc a i - 1)))), (4, aI x4), (5, aI (nI U))] σ Q) (2 ^ aNc a i) ?_ ?_
  · exact L (-1) (Or.inl ⟨rfl, fun T hT => by omega⟩)
  · intro x4 hx
    refine b_X8_simpler_19 (d + 2) _ _ _ _ _ σ Q ⟨vp_in_nI hi (by omega), ?_⟩
    rw [nI_clamp (by omega), hC.2.1, shl_9 _ (by omega)]
    refine ⟨fun _ => ?_, fun c => absurd ((le_nI (by omega) (by omega)).mpr (Nat.le_refl _)) c⟩
    rcases hx with ⟨-, q⟩ | ⟨S, rfl, q⟩
    · exact absurd (ok_full w4) (q (2 ^ aNc a i - 1) (by omega))
    · exact h S q.1 (sim_of_best q)
  · intro U hU ih x4 hx
    have stay : ¬ okC (stepP a i b) (aNc a i) 0 (fun c => U.testBit c) → g_X8_simpler (d + 3) 19 [(0, aN 132), (1, aI (nI i)), (2, aI (nI b)), (3, aI (nI (1 ||| 2 ^ (aNc a i - 1)))), (4, aI x4), (5, aI (nI (U + 1)))] σ Q := by
      intro no
      refine ih x4 ?_
      rcases hx with ⟨q1, q2⟩ | ⟨S, q1, q2⟩
      · refine Or.inl ⟨q1, fun T hT => ?_⟩
        by_cases e : T = U
        · subst e; exact no
        · exact q2 T (by omega)
      · refine Or.inr ⟨S, q1, q2.1, q2.2.1, fun T hT ok => ?_⟩
        by_cases e : T = U
        · subst e; exact absurd ok no
        · exact q2.2.2 T (by omega) ok
    refine b_X8_simpler_19 (d + 2) _ _ _ _ _ σ Q ⟨vp_in_nI hi (by omega), ?_⟩
    rw [nI_clamp (by omega), hC.2.1, shl_9 _ (by omega), nI_1, nI_and]
    have he : 1 ||| 2 ^ (aNc a i - 1) < 2 ^ 8 := Nat.or_lt_two_pow (by omega) (Nat.pow_lt_pow_right (by omega) (by omega))
    have hl : U &&& (1 ||| 2 ^ (aNc a i - 1)) ≤ U := Nat.and_le_left
    rw [nI_eq (by omega) (by omega), and_ends w4]
    refine ⟨fun c => absurd ((le_nI (by omega) (by omega)).mp c) (by omega), fun _ => ⟨fun c => stay (fun q => c ((ok_iff U hU).mp q).1), fun c => ?_⟩⟩
    refine s_X8_keeps d a i hi hW σ hC b hb U hU c.1 _ ⟨fun k => ?_, fun k => stay (fun q => pB_f.mp (b2i_0.mp k) ((ok_iff U hU).mp q).2)⟩
    have okU := (ok_iff U hU).mpr ⟨c, pB_t.mp (b2i_n.mp k)⟩
    have take : (∀ T, T < U → okC (stepP a i b) (aNc a i) 0 (fun c => T.testBit c) → cnt (fun c => U.testBit c) (aNc a i) < cnt (fun c => T.testBit c) (aNc a i) ∨ (cnt (fun c => U.testBit c) (aNc a i) = cnt (fun c => T.testBit c) (aNc a i) ∧ ((∀ c, U.testBit c = T.testBit c) ∨ ahd (fun c => U.testBit c) (fun c => T.testBit c)))) → g_X8_simpler (d + 3) 19 [(0, aN 132), (1, aI (nI i)), (2, aI (nI b)), (3, aI (nI (1 ||| 2 ^ (aNc a i - 1)))), (4, aI (nI U)), (5, aI (nI (U + 1)))] σ Q := by
      intro hq
      refine ih (nI U) (Or.inr ⟨U, rfl, hU, okU, fun T hT ok => ?_⟩)
      by_cases e : T = U
      · subst e; exact Or.inr ⟨rfl, Or.inl (fun _ => rfl)⟩
      · exact hq T (by omega) ok
    rcases hx with ⟨q1, q2⟩ | ⟨S, q1, q2⟩
    · exact ⟨fun _ => take (fun T hT ok => absurd ok (q2 T hT)), fun z => absurd q1 z⟩
    · subst q1
      refine ⟨fun z => ?_, fun _ => ?_⟩
      · exfalso
        have hs := q2.1
        have := nI_pos (n := S) (by omega)
        rw [z] at this
        exact this (by decide)
      have cU := cnt_8 w5 hU
      have cS := cnt_8 w5 q2.1
      have bU := cnt_n (fun c => U.testBit c) (aNc a i)
      have bS := cnt_n (fun c => S.testBit c) (aNc a i)
      have keep : (cnt (fun c => S.testBit c) (aNc a i) < cnt (fun c => U.testBit c) (aNc a i) ∨ (cnt (fun c => S.testBit c) (aNc a i) = cnt (fun c => U.testBit c) (aNc a i) ∧ ((∀ c, S.testBit c = U.testBit c) ∨ ahd (fun c => S.testBit c) (fun c => U.testBit c)))) → g_X8_simpler (d + 3) 19 [(0, aN 132), (1, aI (nI i)), (2, aI (nI b)), (3, aI (nI (1 ||| 2 ^ (aNc a i - 1)))), (4, aI (nI S)), (5, aI (nI (U + 1)))] σ Q := by
        intro hq
        refine ih (nI S) (Or.inr ⟨S, rfl, q2.1, q2.2.1, fun T hT ok => ?_⟩)
        by_cases e : T = U
        · subst e; exact hq
        · exact q2.2.2 T (by omega) ok
      refine s_X8_bits _ U σ _ (s_X8_bits _ S σ _ ?_)
      rw [cU, cS]
      refine ⟨fun z => take (fun T hT ok => ?_), fun z => ?_⟩
      · have z := (lt_nI (by omega) (by omega)).mp z
        rcases q2.2.2 T hT ok with v | ⟨v, _⟩
        · exact Or.inl (by omega)
        · exact Or.inl (by omega)
      · have z : ¬ cnt (fun c => U.testBit c) (aNc a i) < cnt (fun c => S.testBit c) (aNc a i) := fun y => z ((lt_nI (by omega) (by omega)).mpr y)
        refine s_X8_bits _ U σ _ (s_X8_bits _ S σ _ ?_)
        rw [cU, cS, nI_eq (by omega) (by omega)]
        refine ⟨fun y => keep (Or.inl (by omega)), fun y => ?_⟩
        have hs := q2.1
        refine s_X8_isAhead _ U S (by omega) (by omega) σ _ ⟨fun v => keep (Or.inr ⟨y.symm, ?_⟩), fun v => take (fun T hT ok => ?_)⟩
        · have v := pB_f.mp (b2i_0.mp v)
          rcases ahd_tot (S := fun c => S.testBit c) (T := fun c => U.testBit c) (n := aNc a i) (fun c hc => by
            show S.testBit c = U.testBit c
            rw [Nat.testBit_lt_two_pow (Nat.lt_of_lt_of_le hs (Nat.pow_le_pow_right (by omega) hc)), Nat.testBit_lt_two_pow (Nat.lt_of_lt_of_le hU (Nat.pow_le_pow_right (by omega) hc))]) with u | u | u
          · exact Or.inl u
          · exact Or.inr u
          · exact absurd u v
        · have v := pB_t.mp (b2i_n.mp v)
          rcases q2.2.2 T hT ok with u | ⟨u, u2 | u2⟩
          · exact Or.inl (by omega)
          · exact Or.inr ⟨by omega, Or.inr (ahd_c v u2)⟩
          · exact Or.inr ⟨by omega, Or.inr (ahd_tr v u2)⟩
theorem s_X8_isLine (d : Nat) (a : Ab) (hw : WF a) (x y : Int32) (σ : tk_S) (hM : MI a σ) (Q : Int32 → tk_S → Prop) (ht : ∀ i b : Nat, i < aN0 a → aKi a i = 0 → b ≤ 30 → x = nI i → y = nI b → Q 1 σ) (hf : (¬ ∃ i b : Nat, i < aN0 a ∧ aKi a i = 0 ∧ b ≤ 30 ∧ x = nI i ∧ y = nI b) → Q 0 σ) : p_X8_isLine (d + 2) [aN 132, aI x, aI y] σ Q := by
  have hn := hw.1
  refine e_X8_isLine (d + 2) _ _ (b_X8_isLine_0 (d + 1) _ _ σ Q ?_)
  refine s_X8_isShape d x hn σ hM.1 _ (fun i hi e => ⟨fun c => absurd c (by decide), fun _ => ?_⟩) (fun no => ⟨fun _ => hf (fun q => ?_), fun c => absurd rfl c⟩)
  · subst e
    have hk := (hw.2.2.2.2.2.1 i hi).1
    refine ⟨vp_in_nI (by omega) (by omega), ?_⟩
    rw [nI_clamp (by omega), (hM.2.2.2.2.1 i hi).1, show (0 : Int32) = nI 0 from rfl, nI_eq (by omega) (by omega)]
    refine ⟨fun c => hf (fun ⟨i', b, h1, h2, h3, h4, h5⟩ => ?_), fun c => ?_⟩
    · have := (nI_eq (by omega) (by omega)).mp h4
      subst this; exact c h2
    · refine s_X8_isInN (d + 1) y 0 30 (by omega) (by omega) σ _ (fun b _ hb e => ⟨fun c => absurd c (by decide), fun _ => ht i b hi c hb rfl e⟩) (fun no => ⟨fun _ => hf (fun ⟨i', b, h1, h2, h3, h4, h5⟩ => no ⟨b, Nat.zero_le _, h3, h5⟩), fun c => absurd rfl c⟩)
  · obtain ⟨i, b, h1, h2, h3, h4, h5⟩ := q
    exact no ⟨i, h1, h4⟩
theorem s_X7_canSimplify (d : Nat) (a : Ab) (hw : WF a) (x y : Int32) (σ : tk_S) (hX : XI a σ) (Q : Int32 → tk_S → Prop) (ht : ∀ i b : Nat, i < aN0 a → aKi a i = 0 → b ≤ 30 → x = nI i → y = nI b → Q 1 σ) (hf : (¬ ∃ i b : Nat, i < aN0 a ∧ aKi a i = 0 ∧ b ≤ 30 ∧ x = nI i ∧ y = nI b) → Q 0 σ) : p_X7_canSimplify (d + 1) [aN 0, aI x, aI y] σ Q := by
  have hn := hw.1
  refine e_X7_canSimplify (d + 1) _ _ (b_X7_canSimplify_0 d _ _ σ Q ?_)
  refine s_X7_isShape d x hn σ hX.1 _ (fun i hi e => ⟨fun c => absurd c (by decide), fun _ => ?_⟩) (fun no => ⟨fun _ => hf (fun q => ?_), fun c => absurd rfl c⟩)
  · subst e
    have hk := (hw.2.2.2.2.2.1 i hi).1
    refine ⟨vp_in_nI (by omega) (by omega), ?_⟩
    rw [nI_clamp (by omega), show 1 + 71 + 5 * i = 72 + 5 * i by omega, (hX.2.2.2.2.1 i hi).1]
    refine ⟨fun c => hf (fun ⟨i', b, h1, h2, h3, h4, h5⟩ => ?_), fun c => ⟨fun c2 => hf (fun ⟨i', b, h1, h2, h3, h4, h5⟩ => ?_), fun c2 => ⟨fun c3 => hf (fun ⟨i', b, h1, h2, h3, h4, h5⟩ => ?_), fun c3 => ?_⟩⟩⟩
    · have := (nI_eq (by omega) (by omega)).mp h4
      subst this; exact c (by rw [h2]; rfl)
    · rw [h5] at c2; exact nI_pos (by omega) c2
    · rw [h5] at c3; have := (lt_nI (n := 30) (by omega) (by omega)).mp c3; omega
    · obtain ⟨b, h1, h2, h3⟩ := nI_rng (lo := 0) (hi := 30) (by omega) (by omega) c2 c3
      exact ht i b hi ((nI_eq (b := 0) (by omega) (by omega)).mp c) h2 rfl h3
  · obtain ⟨i, b, h1, h2, h3, h4, h5⟩ := q
    exact no ⟨i, h1, h4⟩
theorem xco_of {a : Ab} {σ : tk_S} {i : Nat} (h : XIs a σ i) : xco a σ (72 + 5 * i) i := ⟨h.1, h.2.2.1, h.2.2.2.1⟩
theorem mco_of {a : Ab} {σ : tk_S} {i : Nat} (h : MIs a σ i) : mco a σ i := ⟨h.1, h.2.2.1, h.2.2.2.1⟩
theorem sim_eq {st : Nat → Nat → Prop} {n S T : Nat} (h : simB st n 0 (fun c => S.testBit c)) (h2 : simB st n 0 (fun c => T.testBit c)) : S = T := Nat.eq_of_testBit_eq (fun c => sim_uq h h2 c)
set_option maxHeartbeats 1000000 in
theorem step_simple (d : Nat) (x y z : Int32) (σ : tk_S) (hR : Rel σ) : p_X7_simple (d + 3) [aN 0, aI x, aI y, aI z] σ (fun r σ1 => p_X8_simple (d + 4) [aN 132, aI x, aI y, aI z] σ1 (fun r' σ2 => r = r' ∧ Rel σ2)) := by
  obtain ⟨a, hw, hX, hK, hF, hM⟩ := id hR
  have hn := hw.1
  have no : (¬ ∃ i b : Nat, i < aN0 a ∧ aKi a i = 0 ∧ b ≤ 30 ∧ x = nI i ∧ y = nI b) ∨ (¬ ∃ w : Nat, w ≤ 1 ∧ z = nI w) → p_X8_simple (d + 4) [aN 132, aI x, aI y, aI z] σ (fun r' σ2 => -1 = r' ∧ Rel σ2) := by
    intro hq
    refine e_X8_simple (d + 4) _ _ _ (b_X8_simple_0 (d + 3) _ _ _ σ _ ?_)
    refine s_X8_isLine (d + 1) a hw x y σ hM _ (fun i b h1 h2 h3 h4 h5 => ⟨fun c => absurd c (by decide), fun _ => ?_⟩) (fun _ => ⟨fun _ => ⟨rfl, hR⟩, fun c => absurd rfl c⟩)
    refine s_X8_isInN (d + 3) z 0 1 (by omega) (by omega) σ _ (fun w _ h6 h7 => ?_) (fun _ => ⟨fun c => absurd rfl c, fun _ => ⟨rfl, hR⟩⟩)
    rcases hq with q | q
    · exact absurd ⟨i, b, h1, h2, h3, h4, h5⟩ q
    · exact absurd ⟨w, h6, h7⟩ q
  refine e_X7_simple (d + 3) _ _ _ (b_X7_simple_0 (d + 2) _ _ _ σ _ ?_)
  refine s_X7_canSimplify (d + 1) a hw x y σ hX _ (fun i b h1 h2 h3 h4 h5 => ⟨fun c => absurd c (by decide), fun _ => ⟨fun c => no (Or.inr ?_), fun c => ⟨fun c2 => ?_, fun c2 => no (Or.inr ?_)⟩⟩⟩) (fun q => ⟨fun _ => no (Or.inl q), fun c => absurd rfl c⟩)
  · rintro ⟨w, h6, rfl⟩; exact nI_pos (by omega) c
  · obtain ⟨w, hw1, hw2⟩ : ∃ w : Nat, w ≤ 1 ∧ z = nI w := by
      obtain ⟨w, h6, h7, h8⟩ := nI_rng (x := z) (lo := 0) (hi := 1) (by omega) (by omega) c (not_lt32 c2)
      exact ⟨w, h7, h8⟩
    subst h4; subst h5; subst hw2
    have hWs := hw.2.2.2.2.2.1 i h1
    have w5 := hWs.2.2.2.2.1
    refine ⟨vp_in_nI (by omega) (by omega), ?_⟩
    rw [nI_clamp (by omega), show 1 + 71 + 5 * i = 72 + 5 * i by omega]
    refine s_X4_fewest d _ (by rw [show 72 + 5 * i = 1 + 71 + 5 * i by omega]; exact tk_shp (by omega)) (by omega) a i hWs σ (xco_of (hX.2.2.2.2.1 i h1)) b h3 _ (fun σ1 S f1 g1 hS s1 => ?_)
    have hX1 : XI a σ1 := hX.fr hw (f1.wk (fun k j q => by unfold frS; omega))
    have hK1 : XK (core a) σ1 := hK.fr (fun k j hk => f1 k j (by omega)) g1
    have hF1 : XF (a 11) σ1 := hF.fr (fun k j hk => f1 k j (by omega))
    have hM1 : MI a σ1 := hM.fr (f1.wk (fun k j q => by show k < 132; omega))
    have hS8 : S < 2 ^ 8 := Nat.lt_of_lt_of_le hS (Nat.pow_le_pow_right (by omega) w5)
    have ref : ∀ r : Int32, ((¬ nI w = 0 → r = nI S) ∧ (nI w = 0 → r = nI (cnt (fun c => S.testBit c) 12))) → p_X8_simple (d + 4) [aN 132, aI (nI i), aI (nI b), aI (nI w)] σ1 (fun r' σ2 => r = r' ∧ Rel σ2) := by
      intro r hr
      refine e_X8_simple (d + 4) _ _ _ (b_X8_simple_0 (d + 3) _ _ _ σ1 _ ?_)
      refine s_X8_isLine (d + 1) a hw _ _ σ1 hM1 _ (fun _ _ _ _ _ _ _ => ⟨fun c => absurd c (by decide), fun _ => ?_⟩) (fun q => absurd ⟨i, b, h1, h2, h3, rfl, rfl⟩ q)
      refine s_X8_isInN (d + 3) _ 0 1 (by omega) (by omega) σ1 _ (fun _ _ _ _ => ⟨fun _ => ?_, fun c => absurd c (by decide)⟩) (fun q => absurd ⟨w, Nat.zero_le _, hw1, rfl⟩ q)
      refine s_X8_simpler d a i (by omega) hWs σ1 (mco_of (hM1.2.2.2.2.1 i h1)) b h3 _ (fun S2 hS2 s2 => ?_)
      rw [sim_eq s2 s1]
      refine ⟨fun q => ⟨hr.1 q, a, hw, hX1, hK1, hF1, hM1⟩, fun q => s_X8_bits _ S σ1 _ ⟨hr.2 q, a, hw, hX1, hK1, hF1, hM1⟩⟩
    refine ⟨fun q => ref _ ⟨fun _ => rfl, fun q2 => absurd q2 q⟩, fun q => ?_⟩
    refine s_bitN _ S (by omega) σ1 _ (ref _ ⟨fun q2 => absurd q q2, fun _ => ?_⟩)
    congr 1
    exact cnt_up _ (by omega) (fun c h6 _ => Nat.testBit_lt_two_pow (Nat.lt_of_lt_of_le hS8 (Nat.pow_le_pow_right (by omega) (by omega))))
  · rintro ⟨w, h6, rfl⟩; exact c2 ((le_nI (k := 1) (by omega) (by omega)).mpr h6)
