/-! the reference's small methods -/
theorem ix12 (i j : Nat) : (12 * nI i) + nI j = nI (12 * i + j) := by show nI 12 * nI i + nI j = _; rw [pk_mul, nI_add]
theorem ix4 (i j : Nat) : (4 * nI i) + nI j = nI (4 * i + j) := by show nI 4 * nI i + nI j = _; rw [pk_mul, nI_add]
theorem ix24 (i j : Nat) : (24 * nI i) + nI j = nI (24 * i + j) := by show nI 24 * nI i + nI j = _; rw [pk_mul, nI_add]
theorem ix8 (i j : Nat) : (8 * nI i) + nI j = nI (8 * i + j) := by show nI 8 * nI i + nI j = _; rw [pk_mul, nI_add]
theorem ix576 (i y x : Nat) : ((576 * nI i) + (24 * nI y)) + nI x = nI (576 * i + 24 * y + x) := by show (nI 576 * nI i + nI 24 * nI y) + nI x = _; rw [pk_mul, pk_mul, nI_add, nI_add]
theorem nI_rng {x : Int32} {lo hi : Nat} (hl : lo < 2 ^ 31) (hh : hi < 2 ^ 31) (h0 : ¬ x < nI lo) (h1 : ¬ nI hi < x) : ∃ i : Nat, lo ≤ i ∧ i ≤ hi ∧ x = nI i := by
  have hx : ¬ x < 0 := by
    intro q
    rw [Int32.lt_iff_toInt_lt] at h0 q
    rw [nI_toInt hl] at h0
    rw [Int32.toInt_zero] at q
    omega
  obtain ⟨j, hj, rfl⟩ := nI_of hx
  rw [lt_nI hj hl] at h0
  rw [lt_nI hh hj] at h1
  exact ⟨j, by omega, by omega, rfl⟩
theorem s_X8_isIn (d : Nat) (x lo hi : Int32) (σ : tk_S) (Q : Int32 → tk_S → Prop) (ht : ¬ x < lo → ¬ hi < x → Q 1 σ) (hf : x < lo ∨ hi < x → Q 0 σ) : p_X8_isIn d [aI x, aI lo, aI hi] σ Q :=
  e_X8_isIn d x lo hi (b_X8_isIn_0 d x lo hi σ Q ⟨fun c => hf (Or.inl c), fun c1 => ⟨fun c => hf (Or.inr c), fun c2 => ht c1 c2⟩⟩)
theorem s_X8_isInN (d : Nat) (x : Int32) (lo hi : Nat) (hl : lo < 2 ^ 31) (hh : hi < 2 ^ 31) (σ : tk_S) (Q : Int32 → tk_S → Prop) (ht : ∀ i, lo ≤ i → i ≤ hi → x = nI i → Q 1 σ) (hf : (¬ ∃ i : Nat, lo ≤ i ∧ i ≤ hi ∧ x = nI i) → Q 0 σ) : p_X8_isIn d [aI x, aI (nI lo), aI (nI hi)] σ Q := by
  refine s_X8_isIn d x _ _ σ Q (fun c1 c2 => ?_) (fun c => hf ?_)
  · obtain ⟨i, h1, h2, h3⟩ := nI_rng hl hh c1 c2
    exact ht i h1 h2 h3
  · rintro ⟨i, h1, h2, rfl⟩
    rcases c with c | c
    · rw [lt_nI (by omega) hl] at c; omega
    · rw [lt_nI hh (by omega)] at c; omega
theorem s_X8_isPin (d : Nat) (x y : Int32) (σ : tk_S) (Q : Int32 → tk_S → Prop) (ht : isP x y → Q 1 σ) (hf : ¬ isP x y → Q 0 σ) : p_X8_isPin (d + 1) [aI x, aI y] σ Q := by
  refine e_X8_isPin (d + 1) x y (b_X8_isPin_0 d x y σ Q ?_)
  refine s_X8_isInN d x 0 23 (by omega) (by omega) σ _ (fun i _ hi ei => ⟨fun c => absurd c (by decide), fun _ => ?_⟩) (fun hn => ⟨fun _ => hf ?_, fun c => absurd rfl c⟩)
  · refine s_X8_isInN d y 0 23 (by omega) (by omega) σ _ (fun j _ hj ej => ⟨fun c => absurd c (by decide), fun _ => ht ⟨i, j, by omega, by omega, ei, ej⟩⟩) (fun hn => ⟨fun _ => hf ?_, fun c => absurd rfl c⟩)
    rintro ⟨i', j', h1, h2, h3, h4⟩
    exact hn ⟨j', Nat.zero_le _, by omega, h4⟩
  · rintro ⟨i', j', h1, h2, h3, h4⟩
    exact hn ⟨i', Nat.zero_le _, by omega, h3⟩
theorem s_X8_isTexture (d : Nat) (x : Int32) (σ : tk_S) (Q : Int32 → tk_S → Prop) (ht : ∀ i : Nat, i < 4 → x = nI i → Q 1 σ) (hf : (¬ ∃ i : Nat, i < 4 ∧ x = nI i) → Q 0 σ) : p_X8_isTexture (d + 1) [aI x] σ Q := by
  refine e_X8_isTexture (d + 1) x (b_X8_isTexture_0 d x σ Q ?_)
  refine s_X8_isInN d x 0 3 (by omega) (by omega) σ _ (fun i _ hi ei => ⟨rfl, ht i (by omega) ei⟩) (fun hn => ⟨rfl, hf ?_⟩)
  rintro ⟨i, h1, h2⟩
  exact hn ⟨i, Nat.zero_le _, by omega, h2⟩
theorem s_X8_isShape (d : Nat) (x : Int32) {n : Nat} (hn : n ≤ 12) (σ : tk_S) (h0 : σ.1 132 0 = nI n) (Q : Int32 → tk_S → Prop) (ht : ∀ i : Nat, i < n → x = nI i → Q 1 σ) (hf : (¬ ∃ i : Nat, i < n ∧ x = nI i) → Q 0 σ) : p_X8_isShape (d + 1) [aN 132, aI x] σ Q := by
  refine e_X8_isShape (d + 1) x (b_X8_isShape_0 d x σ Q ?_)
  rw [h0]
  cases n with
  | zero =>
    refine s_X8_isIn d x _ _ σ _ (fun c1 c2 => ?_) (fun _ => ⟨rfl, hf (by rintro ⟨i, h, _⟩; omega)⟩)
    refine absurd ?_ c2
    rw [Int32.lt_iff_toInt_lt] at c1 ⊢
    have : (nI 0 - 1).toInt = -1 := by decide
    rw [this]
    rw [Int32.toInt_zero] at c1
    omega
  | succ m =>
    rw [nI_pred]
    refine s_X8_isInN d x 0 m (by omega) (by omega) σ _ (fun i _ hi ei => ⟨rfl, ht i (by omega) ei⟩) (fun hn => ⟨rfl, hf ?_⟩)
    rintro ⟨i, h1, h2⟩
    exact hn ⟨i, Nat.zero_le _, by omega, h2⟩
theorem s_X7_isShape (d : Nat) (x : Int32) {n : Nat} (hn : n ≤ 12) (σ : tk_S) (h0 : σ.1 0 1 = nI n) (Q : Int32 → tk_S → Prop) (ht : ∀ i : Nat, i < n → x = nI i → Q 1 σ) (hf : (¬ ∃ i : Nat, i < n ∧ x = nI i) → Q 0 σ) : p_X7_isShape d [aN 0, aI x] σ Q := by
  refine e_X7_isShape d x (b_X7_isShape_0 d x σ Q ?_)
  rw [h0]
  refine ⟨fun c => hf ?_, fun c1 => ⟨fun c => hf ?_, fun c2 => ?_⟩⟩
  · rintro ⟨i, hi, rfl⟩; exact nI_pos (by omega) c
  · rintro ⟨i, hi, rfl⟩; exact absurd ((le_nI (by omega) (by omega)).mp c) (by omega)
  · obtain ⟨i, hi, e⟩ := in_nI (by omega) c1 c2
    exact ht i hi e
theorem s_X7_forget (d : Nat) (σ : tk_S) (Q : tk_S → Prop) (h : Q (tk_up (tk_up (tk_up σ 0 14 0) 0 15 0) 0 16 0)) : p_X7_forgetAnswers d [aN 0] σ Q :=
  e_X7_forgetAnswers d (b_X7_forgetAnswers_0 d σ Q (fun σ1 e1 => by rw [e1]; exact h))
/-- numbers of a worth, a room for a shape -/
theorem s_X8_canCome (d : Nat) (x : Int32) {n : Nat} (hn : n ≤ 12) (σ : tk_S) (h0 : σ.1 132 0 = nI n) (Q : Int32 → tk_S → Prop) (ht : ∀ i : Nat, 1 ≤ i → i ≤ 9 → x = nI i → n < 12 → Q 1 σ) (hf : (¬ ((∃ i : Nat, 1 ≤ i ∧ i ≤ 9 ∧ x = nI i) ∧ n < 12)) → Q 0 σ) : p_X8_canCome (d + 1) [aN 132, aI x] σ Q := by
  refine e_X8_canCome (d + 1) x (b_X8_canCome_0 d x σ Q ?_)
  refine s_X8_isInN d x 1 9 (by omega) (by omega) σ _ (fun i h1 hi ei => ⟨fun c => absurd c (by decide), fun _ => ?_⟩) (fun hq => ⟨fun _ => hf (fun q => hq q.1), fun c => absurd rfl c⟩)
  rw [h0]
  refine ⟨fun c => hf (fun q => ?_), fun c => ht i h1 hi ei ?_⟩
  · have := (le_nI (n := 12) (by omega) (by omega)).mp c; omega
  · rcases Nat.lt_or_ge n 12 with q | q
    · exact q
    · exact absurd ((le_nI (n := 12) (by omega) (by omega)).mpr q) c
theorem s_X7_canAdd (d : Nat) (x : Int32) {n : Nat} (hn : n ≤ 12) (σ : tk_S) (h0 : σ.1 0 1 = nI n) (Q : Int32 → tk_S → Prop) (ht : ∀ i : Nat, 1 ≤ i → i ≤ 9 → x = nI i → n < 12 → Q 1 σ) (hf : (¬ ((∃ i : Nat, 1 ≤ i ∧ i ≤ 9 ∧ x = nI i) ∧ n < 12)) → Q 0 σ) : p_X7_canAdd d [aN 0, aI x] σ Q := by
  refine e_X7_canAdd d x (b_X7_canAdd_0 d x σ Q ?_)
  rw [h0]
  refine ⟨fun c => hf ?_, fun c1 => ⟨fun c => hf ?_, fun c2 => ⟨fun c => hf ?_, fun c => ?_⟩⟩⟩
  · rintro ⟨⟨i, h1, h2, rfl⟩, _⟩; have := (lt_nI (k := 1) (by omega) (by omega)).mp c; omega
  · rintro ⟨⟨i, h1, h2, rfl⟩, _⟩; have := (lt_nI (n := 9) (by omega) (by omega)).mp c; omega
  · rintro ⟨_, h⟩; have := (le_nI (n := 12) (by omega) (by omega)).mp c; omega
  · obtain ⟨i, h1, h2, h3⟩ := nI_rng (lo := 1) (hi := 9) (by omega) (by omega) c1 c2
    refine ht i h1 h2 h3 ?_
    rcases Nat.lt_or_ge n 12 with q | q
    · exact q
    · exact absurd ((le_nI (n := 12) (by omega) (by omega)).mpr q) c
