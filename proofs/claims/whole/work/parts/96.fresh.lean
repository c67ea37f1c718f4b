/-! the fresh state -/
def f31 : Nat → Int32 := upd (upd (upd (upd (fun _ => 0) 0 14) 1 13) 2 11) 3 7
def f32 : Nat → Int32 := upd (upd (upd (upd (fun _ => 0) 0 0) 1 1) 2 2) 3 3
def f142 : Nat → Int32 := upd (upd (upd (upd (upd (upd (upd (upd (upd (upd (upd (upd (upd (upd (upd (upd (fun _ => 0) 0 0) 1 1) 2 1) 3 1) 4 1) 5 0) 6 1) 7 1) 8 1) 9 1) 10 0) 11 1) 12 1) 13 1) 14 1) 15 0
def s0f (k : Nat) : Nat → Int32 := if k = 0 then upd (fun _ => 0) 5 2 else if k = 132 then upd (fun _ => 0) 2 2 else if k = 31 then f31 else if k = 32 then f32 else if k = 142 then f142 else if k = 143 then f32 else fun _ => 0
def s0 : tk_S := (s0f, 0)
def a0 : Ab := fun c i j => if c = 0 then (if i = 2 then 2 else 0) else if c = 7 then (if i = j then 0 else 1) else if c = 8 then i else 0
theorem s0_o {k : Nat} (h0 : k ≠ 0) (h1 : k ≠ 132) (h2 : k ≠ 31) (h3 : k ≠ 32) (h4 : k ≠ 142) (h5 : k ≠ 143) (j : Nat) : s0.1 k j = 0 := by
  show s0f k j = 0
  unfold s0f
  rw [if_neg h0, if_neg h1, if_neg h2, if_neg h3, if_neg h4, if_neg h5]
theorem a0_u (x y : Nat) : aUp a0 x y = 0 := rfl
theorem th0 : thingN (a0 11) = 0 := cnt_zero (fun i _ => pB_f.mpr (fun q => by
  have h : a0 11 (i % 24) (i / 24) = 1 := q.1.2.2
  have h2 : a0 11 (i % 24) (i / 24) = 0 := rfl
  omega))
theorem bt00 (x : Nat) : bt (0 : Int32) x = false := by
  unfold bt
  exact BitVec.getLsbD_zero ..
theorem bt31 : ∀ s, s < 4 → ∀ t, t < 32 → bt (s0f 31 s) t = decide (t < 4 ∧ aAp a0 s t = 1) := by decide +kernel
theorem ap0 : ∀ s, s < 4 → ∀ t, t < 4 → s0f 142 (4 * s + t) = nI (aAp a0 s t) := by decide +kernel
theorem pr0 : ∀ t, t < 4 → s0f 143 t = nI (aPr a0 t) ∧ s0f 32 t = nI (aPr a0 t) ∧ aPr a0 t ≤ 99 := by decide +kernel
theorem wf0 : WF a0 := by
  refine ⟨Nat.zero_le _, Nat.zero_le _, by decide, by decide, fun k hk => absurd hk (Nat.not_lt_zero k), fun i hi => absurd hi (Nat.not_lt_zero i), fun i j hi => absurd hi (Nat.not_lt_zero i), ?_, ?_, fun t ht => (pr0 t ht).2.2, fun x y _ _ => by rw [a0_u]; exact Nat.zero_le 1⟩
  · have h : ∀ s, s < 4 → ∀ t, t < 4 → aAp a0 s t ≤ 1 ∧ aAp a0 s t = aAp a0 t s := by decide +kernel
    exact fun s t hs ht => h s hs t ht
  · have h : ∀ s, s < 4 → aAp a0 s s = 0 := by decide +kernel
    exact h
theorem rel0 : Rel s0 := by
  refine ⟨a0, wf0, ?_, ⟨.inl rfl, .inl rfl, .inl rfl⟩, ?_, ?_⟩
  · refine ⟨rfl, rfl, rfl, fun k hk => absurd hk (Nat.not_lt_zero k), fun i hi => absurd hi (Nat.not_lt_zero i), fun i j _ => ?_, fun s t hs => ?_, fun t ht => (pr0 t ht).2.1, fun i j hi => absurd hi (Nat.not_lt_zero i), fun x y _ => ?_⟩
    · rw [s0_o (by decide) (by decide) (by decide) (by decide) (by decide) (by decide), bt00]
      exact (decide_eq_false (fun q => Nat.not_lt_zero i q.1)).symm
    · rcases Nat.lt_or_ge t 32 with h | h
      · exact bt31 s hs t h
      · rw [show bt (s0.1 31 s) t = false from BitVec.getLsbD_of_ge _ _ h]
        exact (decide_eq_false (fun q => by have := q.1; omega)).symm
    · rw [s0_o (by decide) (by decide) (by decide) (by decide) (by decide) (by decide), bt00]
      exact (decide_eq_false (fun q => by have := q.2; rw [a0_u] at this; omega)).symm
  · refine ⟨by rw [th0]; exact Nat.zero_le 12, by rw [th0]; rfl, fun i p h => ?_⟩
    have h1 : a0 11 (p % 24) (p / 24) = 1 := h.2.1.1.2.2
    have h2 : a0 11 (p % 24) (p / 24) = 0 := rfl
    omega
  · refine ⟨rfl, rfl, rfl, fun k hk => absurd hk (Nat.not_lt_zero k), fun i hi => absurd hi (Nat.not_lt_zero i), fun i j hi => absurd hi (Nat.not_lt_zero i), fun s t hs ht => ap0 s hs t ht, fun t ht => (pr0 t ht).1, fun x y _ _ => ?_⟩
    rw [s0_o (by decide) (by decide) (by decide) (by decide) (by decide) (by decide), a0_u]
    rfl
