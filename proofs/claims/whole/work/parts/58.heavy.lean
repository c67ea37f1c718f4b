/-! heaviest: the greatest weight of a set that is free and of which no two are barred -/
def okS (F : Nat → Bool) (B : Nat → Nat → Bool) (t : Nat) (S : Nat → Bool) : Prop := ∀ i, S i = true → i < t ∧ F i = true ∧ ∀ j, j < i → S j = true → B i j = false
def isMax (F : Nat → Bool) (B : Nat → Nat → Bool) (w : Nat → Nat) (t M : Nat) : Prop := (∃ S, okS F B t S ∧ sumB S w t = M) ∧ ∀ S, okS F B t S → sumB S w t ≤ M
theorem sumB_c {p q : Nat → Bool} {f g : Nat → Nat} : ∀ {n : Nat}, (∀ i, i < n → p i = q i) → (∀ i, i < n → f i = g i) → sumB p f n = sumB q g n := by
  intro n
  induction n with
  | zero => intro _ _; rfl
  | succ n ih => intro h h2; show sumB p f n + _ = sumB q g n + _; rw [ih (fun i hi => h i (by omega)) (fun i hi => h2 i (by omega)), h n (by omega), h2 n (by omega)]
theorem sumB_up (p : Nat → Bool) (f : Nat → Nat) {m : Nat} : ∀ {n : Nat}, m ≤ n → (∀ i, m ≤ i → i < n → p i = false) → sumB p f n = sumB p f m := by
  intro n
  induction n with
  | zero => intro h _; rw [show m = 0 by omega]
  | succ n ih =>
    intro h hp
    rcases Nat.lt_or_ge m (n + 1) with q | q
    · show sumB p f n + (if p n then f n else 0) = _
      rw [ih (by omega) (fun i h1 h2 => hp i h1 (by omega)), hp n (by omega) (by omega)]
      simp
    · rw [show m = n + 1 by omega]
theorem isMax_lo {F : Nat → Bool} {B : Nat → Nat → Bool} {w : Nat → Nat} {t i M : Nat} (hi : i ≤ t) (hF : ∀ j, i ≤ j → j < t → F j = false) (h : isMax F B w i M) : isMax F B w t M := by
  have red : ∀ S, okS F B t S → okS F B i S := by
    intro S hS j hj
    obtain ⟨a1, a2, a3⟩ := hS j hj
    refine ⟨?_, a2, a3⟩
    rcases Nat.lt_or_ge j i with q | q
    · exact q
    · rw [hF j q a1] at a2; cases a2
  have eq : ∀ S, okS F B i S → sumB S w t = sumB S w i := fun S hS => sumB_up S w hi (fun j h1 _ => by
    cases e : S j
    · rfl
    · have := (hS j e).1; omega)
  obtain ⟨⟨S, s1, s2⟩, h2⟩ := h
  exact ⟨⟨S, fun j hj => ⟨by have := (s1 j hj).1; omega, (s1 j hj).2⟩, (eq S s1).trans s2⟩, fun S hS => by rw [eq S (red S hS)]; exact h2 S (red S hS)⟩
/-- one that is free comes first: with it, or without it -/
theorem isMax_w {F : Nat → Bool} {B : Nat → Nat → Bool} {w : Nat → Nat} {i M : Nat} (hF : F i = true) (h : isMax (fun j => F j && !B i j) B w i M) (hno : ∀ S, okS F B i S → sumB S w i ≤ w i + M) : isMax F B w (i + 1) (w i + M) := by
  obtain ⟨⟨S, s1, s2⟩, h2⟩ := h
  constructor
  · refine ⟨fun j => if j = i then true else S j, fun j hj => ?_, ?_⟩
    · by_cases e : j = i
      · subst e
        refine ⟨by omega, hF, fun j2 hj2 hs => ?_⟩
        have hs : S j2 = true := by dsimp only at hs; rw [if_neg (by omega)] at hs; exact hs
        have := (s1 j2 hs).2.1
        rw [Bool.and_eq_true] at this
        simpa using this.2
      · have hj : S j = true := by dsimp only at hj; rw [if_neg e] at hj; exact hj
        obtain ⟨a1, a2, a3⟩ := s1 j hj
        rw [Bool.and_eq_true] at a2
        refine ⟨by omega, a2.1, fun j2 hj2 hs => ?_⟩
        dsimp only at hs
        rw [if_neg (by omega)] at hs
        exact a3 j2 hj2 hs
    · show sumB (fun j => if j = i then true else S j) w i + (if (if i = i then true else S i) = true then w i else 0) = _
      rw [sumB_c (q := S) (g := w) (fun j hj => if_neg (by omega)) (fun _ _ => rfl), s2]
      simp
      omega
  · intro T hT
    show sumB T w i + (if T i then w i else 0) ≤ w i + M
    by_cases e : T i = true
    · rw [if_pos e]
      have hok : okS (fun j => F j && !B i j) B i (fun j => T j && decide (j < i)) := by
        intro j hj
        rw [Bool.and_eq_true, decide_eq_true_eq] at hj
        obtain ⟨a1, a2, a3⟩ := hT j hj.1
        refine ⟨hj.2, ?_, fun j2 hj2 hs => ?_⟩
        · rw [Bool.and_eq_true]
          exact ⟨a2, by rw [(hT i e).2.2 j hj.2 hj.1]; rfl⟩
        · rw [Bool.and_eq_true] at hs
          exact a3 j2 hj2 hs.1
      have := h2 _ hok
      rw [sumB_c (q := T) (g := w) (fun j hj => by simp [hj]) (fun _ _ => rfl)] at this
      omega
    · have e2 : T i = false := by simpa using e
      rw [if_neg e]
      have hok : okS F B i T := by
        intro j hj
        obtain ⟨a1, a2, a3⟩ := hT j hj
        refine ⟨?_, a2, a3⟩
        by_cases q : j = i
        · subst q; rw [e2] at hj; cases hj
        · omega
      have := hno T hok
      omega
theorem isMax_c {F F' : Nat → Bool} {B : Nat → Nat → Bool} {w : Nat → Nat} {t M : Nat} (h : ∀ j, j < t → F j = F' j) (hm : isMax F B w t M) : isMax F' B w t M := by
  have a1 : ∀ S, okS F B t S ↔ okS F' B t S := fun S => ⟨fun hS j hj => ⟨(hS j hj).1, by rw [← h j (hS j hj).1]; exact (hS j hj).2.1, (hS j hj).2.2⟩, fun hS j hj => ⟨(hS j hj).1, by rw [h j (hS j hj).1]; exact (hS j hj).2.1, (hS j hj).2.2⟩⟩
  obtain ⟨⟨S, s1, s2⟩, h2⟩ := hm
  exact ⟨⟨S, (a1 S).mp s1, s2⟩, fun S hS => h2 S ((a1 S).mpr hS)⟩
theorem isMax_wo {F : Nat → Bool} {B : Nat → Nat → Bool} {w : Nat → Nat} {i M M2 : Nat} (hF : F i = true) (h : isMax (fun j => F j && !B i j) B w i M) (h2 : isMax F B w i M2) : isMax F B w (i + 1) (max (w i + M) M2) := by
  by_cases hle : M2 ≤ w i + M
  · rw [Nat.max_eq_left hle]
    exact isMax_w hF h (fun S hS => Nat.le_trans (h2.2 S hS) hle)
  · rw [Nat.max_eq_right (by omega)]
    obtain ⟨⟨S, s1, s2⟩, h3⟩ := h2
    constructor
    · refine ⟨S, fun j hj => ⟨by have := (s1 j hj).1; omega, (s1 j hj).2⟩, ?_⟩
      rw [sumB_up S w (m := i) (by omega) (fun j h1 _ => by
        cases e : S j
        · rfl
        · have := (s1 j e).1; omega)]
      exact s2
    · intro T hT
      show sumB T w i + (if T i then w i else 0) ≤ M2
      by_cases e : T i = true
      · rw [if_pos e]
        have hok : okS (fun j => F j && !B i j) B i (fun j => T j && decide (j < i)) := by
          intro j hj
          rw [Bool.and_eq_true, decide_eq_true_eq] at hj
          obtain ⟨a1, a2, a3⟩ := hT j hj.1
          refine ⟨hj.2, ?_, fun j2 hj2 hs => ?_⟩
          · rw [Bool.and_eq_true]
            exact ⟨a2, by rw [(hT i e).2.2 j hj.2 hj.1]; rfl⟩
          · rw [Bool.and_eq_true] at hs
            exact a3 j2 hj2 hs.1
        have := h.2 _ hok
        rw [sumB_c (q := T) (g := w) (fun j hj => by simp [hj]) (fun _ _ => rfl)] at this
        omega
      · have e2 : T i = false := by simpa using e
        rw [if_neg e]
        have hok : okS F B i T := by
          intro j hj
          obtain ⟨a1, a2, a3⟩ := hT j hj
          refine ⟨?_, a2, a3⟩
          by_cases q : j = i
          · subst q; rw [e2] at hj; cases hj
          · omega
        have := h3 T hok
        omega
theorem mask_i : ∀ i, i < 12 → ∀ j, j < 32 → bt (((1 : Int32) <<< (nI i &&& 31)) - 1) j = decide (j < i) := by decide +kernel
theorem isMax_0 (F : Nat → Bool) (B : Nat → Nat → Bool) (w : Nat → Nat) : isMax F B w 0 0 := ⟨⟨fun _ => false, fun i hi => (by cases hi), rfl⟩, fun _ _ => Nat.le_refl _⟩
set_option maxHeartbeats 2000000 in
theorem s_heaviest (σ : tk_S) (k2 k3 : Nat) (h2 : tk_sh k2 = tk_ia 12) (h3 : tk_sh k3 = tk_ia 12) (w : Nat → Nat) (T : Nat) (hT : T ≤ 12) (hw : ∀ i, i < T → σ.1 k3 i = nI (w i) ∧ w i ≤ 1048576) : ∀ t, t ≤ T → ∀ (d : Nat) (fr : Int32) (Q : Int32 → tk_S → Prop), (∀ M, M ≤ t * 1048576 → isMax (bt fr) (fun i j => bt (σ.1 k2 i) j) w t M → Q (nI M) σ) → p_X7_heaviest (d + t + 1) [aI (nI t), aI fr, aN k2, aN k3] σ Q := by
  intro t
  induction t using Nat.strongRecOn with
  | _ t IH =>
    intro ht d fr Q h
    refine e_X7_heaviest (d + t + 1) _ _ k2 k3 (b_X7_heaviest_0 (d + t) _ _ k2 h2 k3 h3 σ Q (fun z1 e1 => ?_))
    have empty : ∀ x : Int32, x = -1 → isMax (bt fr) (fun i j => bt (σ.1 k2 i) j) w t 0 → g_X7_heaviest (d + t + 1) 5 [(1, aI fr), (2, aN k2), (3, aN k3), (4, aI x)] σ Q := by
      intro x ex hm
      subst ex
      refine b_X7_heaviest_5 (d + t) _ k2 h2 k3 h3 _ σ Q ⟨fun _ => ?_, fun c => absurd (by decide) c⟩
      exact b_X7_heaviest_25 (d + t) _ k2 h2 k3 h3 _ σ Q ⟨fun c => absurd c (by decide), fun _ => h 0 (by omega) hm⟩
    have L : ∀ m, m ≤ t → (∀ j, m ≤ j → j < t → bt fr j = false) → ∀ x : Int32, x = nI m - 1 → g_X7_heaviest (d + t + 1) 5 [(1, aI fr), (2, aN k2), (3, aN k3), (4, aI x)] σ Q := by
      intro m
      induction m with
      | zero =>
        intro _ hF x ex
        exact empty x (by rw [ex]; rfl) (isMax_lo (Nat.zero_le t) hF (isMax_0 _ _ _))
      | succ i ih =>
        intro hm hF x ex
        rw [nI_pred] at ex
        subst ex
        refine b_X7_heaviest_5 (d + t) _ k2 h2 k3 h3 _ σ Q ⟨fun c => absurd c (nI_pos (by omega)), fun _ => s_X7_has (d + t) fr (by omega) σ _ ⟨fun c => ?_, fun c => ?_⟩⟩
        · have hfi : bt fr i = true := b2i_n.mp c
          have wi := hw i (by omega)
          refine b_X7_heaviest_25 (d + t) _ k2 h2 k3 h3 _ σ Q ⟨fun _ z2 e2 => ?_, fun c => absurd (nI_pos' (by omega)) c⟩
          rw [nI_clamp (by omega)]
          have bz : ∀ j, j < i → bt z2 j = bt fr j := fun j hj => by rw [e2, b_and, mask_i i (by omega) j (by omega), decide_eq_true hj, Bool.and_true]
          have bz2 : ∀ j, i ≤ j → bt z2 j = false := fun j hj => by
            by_cases q : j < 32
            · rw [e2, b_and, mask_i i (by omega) j q, decide_eq_false (by omega), Bool.and_false]
            · exact b_big (by omega)
          refine ⟨vp_in_nI (by omega) (by omega), vp_in_nI (by omega) (by omega), ?_⟩
          obtain ⟨d', hd'⟩ : ∃ d', d + t = d' + i + 1 := ⟨d + t - i - 1, by omega⟩
          rw [hd']
          refine IH i (by omega) (by omega) d' _ _ (fun M hM hmx => fun z8 e8 => ⟨vp_in_nI (by omega) (by omega), ?_⟩)
          rw [wi.1, nI_add] at e8
          have hmx1 : isMax (fun j => bt fr j && !bt (σ.1 k2 i) j) (fun i j => bt (σ.1 k2 i) j) w i M := isMax_c (fun j hj => by rw [b_and, bz j hj, bt_not _ (by omega)]) hmx
          refine ⟨fun c => ?_, fun c => ?_⟩
          · refine IH i (by omega) (by omega) d' z2 _ (fun M2 hM2 hmx2 => ?_)
            rw [e8, max_if (by omega) (by omega)]
            refine h _ (by have : (i + 1) * 1048576 ≤ t * 1048576 := Nat.mul_le_mul_right _ hm; omega) (isMax_lo hm hF (isMax_wo hfi hmx1 (isMax_c (fun j hj => bz j hj) hmx2)))
          · rw [e8]
            refine h _ (by have : (i + 1) * 1048576 ≤ t * 1048576 := Nat.mul_le_mul_right _ hm; omega) (isMax_lo hm hF (isMax_w hfi hmx1 (fun S hS => ?_)))
            have hok : okS (fun j => bt fr j && !bt (σ.1 k2 i) j) (fun i j => bt (σ.1 k2 i) j) i S := by
              intro j hj
              obtain ⟨a1, a2, a3⟩ := hS j hj
              refine ⟨a1, ?_, a3⟩
              dsimp only
              rw [a2]
              have : bt (z2 &&& σ.1 k2 i) j = false := by rw [c, b_0]
              rw [b_and, bz j a1, a2, Bool.true_and] at this
              rw [this]
              rfl
            have := hmx1.2 S hok
            omega
        · have hfi : bt fr i = false := b2i_0.mp c
          refine ih (by omega) (fun j h1 h2 => ?_) _ ?_
          · by_cases q : j = i
            · subst q; exact hfi
            · exact hF j (by omega) h2
          · rw [show (-1 : Int32) = 0 - 1 from rfl]
            cases i with
            | zero => rfl
            | succ m => rw [nI_pred]; exact pk_m1 m
    exact L t (Nat.le_refl _) (fun j h1 h2 => by omega) z1 e1
