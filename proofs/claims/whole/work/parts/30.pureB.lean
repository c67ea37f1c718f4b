/-! small tests -/
theorem in_nI {x : Int32} {n : Nat} (hn : n < 2 ^ 31) (h0 : ¬ x < 0) (h1 : ¬ nI n ≤ x) : ∃ j : Nat, j < n ∧ x = nI j := by
  rcases pk_ix x hn with h | h | h
  · exact absurd h h0
  · exact absurd h h1
  · exact h
/-- x, y is a pin -/
def isP (x y : Int32) : Prop := ∃ i j : Nat, i < 24 ∧ j < 24 ∧ x = nI i ∧ y = nI j
theorem s_X7_isPin (d : Nat) (x y : Int32) (σ : tk_S) (Q : Int32 → tk_S → Prop) (ht : isP x y → Q 1 σ) (hf : ¬ isP x y → Q 0 σ) : p_X7_isPin d [aI x, aI y] σ Q := by
  refine e_X7_isPin d x y (b_X7_isPin_0 d x y σ Q ⟨fun c => hf ?_, fun c1 => ⟨fun c => hf ?_, fun c2 => ⟨fun c => hf ?_, fun c3 => ⟨fun c => hf ?_, fun c4 => ht ?_⟩⟩⟩⟩)
  · rintro ⟨i, j, hi, hj, rfl, rfl⟩; exact nI_pos (by omega) c
  · rintro ⟨i, j, hi, hj, rfl, rfl⟩; exact absurd ((le_nI (n := 24) (by omega) (by omega)).mp c) (by omega)
  · rintro ⟨i, j, hi, hj, rfl, rfl⟩; exact nI_pos (by omega) c
  · rintro ⟨i, j, hi, hj, rfl, rfl⟩; exact absurd ((le_nI (n := 24) (by omega) (by omega)).mp c) (by omega)
  · obtain ⟨i, hi, e1⟩ := in_nI (n := 24) (by omega) c1 c2
    obtain ⟨j, hj, e2⟩ := in_nI (n := 24) (by omega) c3 c4
    exact ⟨i, j, hi, hj, e1, e2⟩
theorem s_X7_isTexture (d : Nat) (x : Int32) (σ : tk_S) (Q : Int32 → tk_S → Prop) (ht : ∀ i : Nat, i < 4 → x = nI i → Q 1 σ) (hf : (¬ ∃ i : Nat, i < 4 ∧ x = nI i) → Q 0 σ) : p_X7_isTexture d [aI x] σ Q := by
  refine e_X7_isTexture d x (b_X7_isTexture_0 d x σ Q ⟨fun c => hf ?_, fun c1 => ⟨fun c => hf ?_, fun c2 => ?_⟩⟩)
  · rintro ⟨i, hi, rfl⟩; exact nI_pos (by omega) c
  · rintro ⟨i, hi, rfl⟩; exact absurd ((le_nI (n := 4) (by omega) (by omega)).mp c) (by omega)
  · obtain ⟨i, hi, e1⟩ := in_nI (n := 4) (by omega) c1 c2
    exact ht i hi e1
def b2i (b : Bool) : Int32 := if b then 1 else 0
theorem b2i_t : b2i true = 1 := rfl
theorem b2i_f : b2i false = 0 := rfl
theorem b2i_0 {b : Bool} : b2i b = 0 ↔ b = false := by cases b <;> decide
theorem b2i_n {b : Bool} : ¬ b2i b = 0 ↔ b = true := by cases b <;> decide
theorem b2i_nar (b : Bool) : narrow .boolean (.int (b2i b)) = .int (b2i b) := by cases b <;> rfl
theorem b2i_vp (b : Bool) : vp_nar .boolean (b2i b) = b2i b := by cases b <;> rfl
theorem s_X7_has (d : Nat) (x : Int32) {i : Nat} (hi : i < 32) (σ : tk_S) (Q : Int32 → tk_S → Prop) (h : Q (b2i (bt x i)) σ) : p_X7_has d [aI x, aI (nI i)] σ Q := by
  refine e_X7_has d x (nI i) (b_X7_has_0 d x (nI i) σ Q ?_)
  rw [bt_shr1 x hi]
  cases e : bt x i <;> rw [e] at h
  · exact ⟨fun _ => h, fun c => absurd rfl c⟩
  · exact ⟨fun c => absurd c (by decide), fun _ => h⟩
