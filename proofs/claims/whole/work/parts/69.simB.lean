/-! SIMPLER: the sets of corners, and the least of them -/
def okC (st : Nat → Nat → Prop) (n i : Nat) (T : Nat → Bool) : Prop := (∀ c, T c = true → i ≤ c ∧ c < n) ∧ T i = true ∧ T (n - 1) = true ∧ ∀ s t, s < t → T s = true → T t = true → (∀ c, s < c → c < t → T c = false) → st s t
def ahd (S T : Nat → Bool) : Prop := ∃ c, S c = true ∧ T c = false ∧ ∀ c', c' < c → S c' = T c'
def simB (st : Nat → Nat → Prop) (n i : Nat) (S : Nat → Bool) : Prop := okC st n i S ∧ ∀ T, okC st n i T → cnt S n < cnt T n ∨ (cnt S n = cnt T n ∧ ((∀ c, S c = T c) ∨ ahd S T))
theorem ahd_no {S T : Nat → Bool} (h : ahd S T) (h2 : ahd T S) : False := by
  obtain ⟨c, a1, a2, a3⟩ := h
  obtain ⟨e, b1, b2, b3⟩ := h2
  rcases Nat.lt_trichotomy c e with q | q | q
  · rw [b3 c q, a1] at a2; cases a2
  · subst q; rw [a1] at b2; cases b2
  · rw [a3 e q, b1] at b2; cases b2
theorem sim_uq {st : Nat → Nat → Prop} {n i : Nat} {S T : Nat → Bool} (h : simB st n i S) (h2 : simB st n i T) : ∀ c, S c = T c := by
  rcases h.2 T h2.1 with q | ⟨q, q2 | q2⟩
  · rcases h2.2 S h.1 with z | ⟨z, _⟩ <;> omega
  · exact q2
  · rcases h2.2 S h.1 with z | ⟨z, z2 | z2⟩
    · omega
    · exact fun c => (z2 c).symm
    · exact (ahd_no q2 z2).elim
/-- without one of them -/
def wout (T : Nat → Bool) (i : Nat) : Nat → Bool := fun c => T c && decide (c ≠ i)
theorem cnt_wout (T : Nat → Bool) (i : Nat) (hi : T i = true) : ∀ n, i < n → cnt T n = cnt (wout T i) n + 1 := by
  intro n
  induction n with
  | zero => intro h; omega
  | succ n ih =>
    intro h
    show cnt T n + (if T n then 1 else 0) = cnt (wout T i) n + (if wout T i n then 1 else 0) + 1
    have w : ∀ c, c ≠ i → wout T i c = T c := fun c hc => by simp [wout, hc]
    by_cases e : i = n
    · subst e
      rw [hi, show wout T i i = false by simp [wout], cnt_c (p := wout T i) (q := T) (n := i) (fun c hc => w c (by omega))]
      simp
    · rw [ih (by omega), w n (by omega)]
      omega
/-- the next one kept after i -/
theorem next_of {T : Nat → Bool} {i n : Nat} (hl : i < n - 1) (h : T (n - 1) = true) : ∃ j, i < j ∧ j < n ∧ T j = true ∧ ∀ c, i < c → c < j → T c = false := by
  have : ∀ m, ∀ j, j = i + m → j < n → i < j → (T j = true) → ∃ j', i < j' ∧ j' < n ∧ T j' = true ∧ ∀ c, i < c → c < j' → T c = false := by
    intro m
    induction m using Nat.strongRecOn with
    | _ m ih =>
      intro j hj hjn hij hT
      by_cases e : ∃ c, i < c ∧ c < j ∧ T c = true
      · obtain ⟨c, h1, h2, h3⟩ := e
        exact ih (c - i) (by omega) c (by omega) (by omega) h1 h3
      · refine ⟨j, hij, hjn, hT, fun c h1 h2 => ?_⟩
        cases z : T c
        · rfl
        · exact absurd ⟨c, h1, h2, z⟩ e
  exact this (n - 1 - i) (n - 1) (by omega) (by omega) hl h
/-- fewest from i on, and the least next -/
def dpOK (st : Nat → Nat → Prop) (n : Nat) (F N : Nat → Nat) (i : Nat) : Prop := i < N i ∧ N i < n ∧ st i (N i) ∧ F i = F (N i) + 1 ∧ ∀ j, i < j → j < n → st i j → F i ≤ F j + 1 ∧ (F i = F j + 1 → N i ≤ j)
theorem ok_wout {st : Nat → Nat → Prop} {n i j : Nat} {T : Nat → Bool} (h : okC st n i T) (hij : i < j) (hj : j < n) (hT : T j = true) (hb : ∀ c, i < c → c < j → T c = false) : okC st n j (wout T i) ∧ st i j := by
  obtain ⟨h1, h2, h3, h4⟩ := h
  have w : ∀ c, c ≠ i → wout T i c = T c := fun c hc => by simp [wout, hc]
  have w0 : wout T i i = false := by simp [wout]
  refine ⟨⟨fun c hc => ?_, by rw [w j (by omega)]; exact hT, by rw [w (n - 1) (by omega)]; exact h3, fun s t hst hs ht hbt => ?_⟩, h4 i j hij h2 hT hb⟩
  · have hci : c ≠ i := fun q => by rw [q, w0] at hc; cases hc
    rw [w c hci] at hc
    have := h1 c hc
    refine ⟨?_, this.2⟩
    rcases Nat.lt_or_ge c j with q | q
    · rw [hb c (by omega) q] at hc; cases hc
    · exact q
  · have hsi : s ≠ i := fun q => by rw [q, w0] at hs; cases hs
    rw [w s hsi] at hs
    have := (h1 s hs).1
    rw [w t (by omega)] at ht
    exact h4 s t hst hs ht (fun c h5 h6 => by rw [← w c (by omega)]; exact hbt c h5 h6)
theorem sim_last (st : Nat → Nat → Prop) {n i : Nat} (hi : i + 1 = n) : simB st n i (fun c => decide (c = i)) ∧ cnt (fun c => decide (c = i)) n = 1 := by
  have hn : n - 1 = i := by omega
  have hc : cnt (fun c => decide (c = i)) n = 1 := by
    rw [← hi]
    show cnt (fun c => decide (c = i)) i + (if decide (i = i) then 1 else 0) = 1
    rw [cnt_up (m := 0) _ (by omega) (fun c _ h => decide_eq_false (by omega))]
    simp [cnt]
  refine ⟨⟨⟨fun c h => by have := of_decide_eq_true h; omega, by simp, by simp [hn], fun s t hst hs ht => by have := of_decide_eq_true hs; have := of_decide_eq_true ht; omega⟩, fun T hT => Or.inr ?_⟩, hc⟩
  have e : ∀ c, decide (c = i) = T c := fun c => by
    by_cases q : c = i
    · rw [decide_eq_true q, q]; exact hT.2.1.symm
    · rw [decide_eq_false q]
      cases z : T c
      · rfl
      · have := hT.1 c z; omega
  exact ⟨by rw [show (fun c => decide (c = i)) = T from funext e], Or.inl e⟩
theorem sim_step {st : Nat → Nat → Prop} {n i : Nat} {F N : Nat → Nat} (hd : dpOK st n F N i) (hrec : ∀ j, i < j → j < n → ∃ S, simB st n j S ∧ cnt S n = F j) {S : Nat → Bool} (hS : simB st n (N i) S) (hc : cnt S n = F (N i)) : simB st n i (fun c => S c || decide (c = i)) ∧ cnt (fun c => S c || decide (c = i)) n = F i := by
  obtain ⟨d1, d2, d3, d4, d5⟩ := hd
  obtain ⟨⟨s1, s2, s3, s4⟩, s5⟩ := hS
  have Si : S i = false := by
    cases z : S i
    · rfl
    · have := s1 i z; omega
  have ew : wout (fun c => S c || decide (c = i)) i = S := by
    funext c
    by_cases q : c = i
    · subst q; simp [wout, Si]
    · simp [wout, q]
  have hcn : cnt (fun c => S c || decide (c = i)) n = F i := by
    rw [cnt_wout _ i (by simp) n (by omega), ew, hc, d4]
  have lowS : ∀ c, c < N i → S c = false := fun c hc' => by
    cases z : S c
    · rfl
    · have := s1 c z; omega
  refine ⟨⟨⟨fun c hc' => ?_, by simp, by simp [s3], fun s t hst hs ht hb => ?_⟩, fun T hT => ?_⟩, hcn⟩
  · rcases Bool.or_eq_true_iff.mp hc' with q | q
    · have := s1 c q; omega
    · have := of_decide_eq_true q; omega
  · have nm : ∀ c, c ≠ i → (S c || decide (c = i)) = S c := fun c q => by simp [q]
    by_cases e : s = i
    · subst e
      have ht' : S t = true := by rw [← nm t (by omega)]; exact ht
      have h1 := (s1 t ht').1
      rcases Nat.lt_or_ge (N s) t with q | q
      · have : (S (N s) || decide (N s = s)) = false := hb (N s) d1 q
        rw [nm (N s) (by omega), s2] at this
        cases this
      · rw [show t = N s by omega]; exact d3
    · have hs' : S s = true := by rw [← nm s e]; exact hs
      have hsi := (s1 s hs').1
      have ht' : S t = true := by rw [← nm t (by omega)]; exact ht
      exact s4 s t hst hs' ht' (fun c h1 h2 => by rw [← nm c (by omega)]; exact hb c h1 h2)
  · have hTl : T (n - 1) = true := hT.2.2.1
    have hl : i < n - 1 := by omega
    obtain ⟨j, j1, j2, j3, j4⟩ := next_of hl hTl
    obtain ⟨okj, stj⟩ := ok_wout hT j1 j2 j3 j4
    have ct := cnt_wout T i hT.2.1 n (by omega)
    obtain ⟨Sj, q1, q2⟩ := hrec j j1 j2
    obtain ⟨e1, e2⟩ := d5 j j1 j2 stj
    rw [hcn]
    have lowT : ∀ c, c < i → T c = false := fun c hc' => by
      cases z : T c
      · rfl
      · have := hT.1 c z; omega
    have q3 := q1.2 _ okj
    rcases Nat.lt_or_ge (F i) (cnt T n) with z | z
    · exact Or.inl z
    · refine Or.inr ⟨by omega, ?_⟩
      have hle : N i ≤ j := e2 (by omega)
      rcases Nat.lt_or_ge (N i) j with w | w
      · refine Or.inr ⟨N i, by simp [s2], j4 _ d1 w, fun c' hc' => ?_⟩
        rcases Nat.lt_trichotomy c' i with v | v | v
        · rw [lowT c' v]
          have : c' ≠ i := by omega
          simp [lowS c' hc', this]
        · subst v; simp [hT.2.1]
        · rw [j4 c' v (by omega)]
          have : c' ≠ i := by omega
          simp [lowS c' hc', this]
      · have ej : N i = j := by omega
        subst ej
        have bk : ∀ c, (wout T i c || decide (c = i)) = T c := fun c => by
          by_cases v : c = i
          · subst v; simp [hT.2.1]
          · simp [wout, v]
        rcases s5 _ okj with u | ⟨u, u2 | ⟨c, u3, u4, u5⟩⟩
        · omega
        · exact Or.inl (fun c => by rw [← bk c, ← u2 c])
        · have hci : c ≠ i := fun q => by subst q; rw [Si] at u3; cases u3
          refine Or.inr ⟨c, by simp [u3], ?_, fun c' hc' => ?_⟩
          · rw [← bk c, u4]; simp [hci]
          · rw [← bk c', ← u5 c' hc']
