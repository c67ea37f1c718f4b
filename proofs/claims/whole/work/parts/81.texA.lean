/-! TEXTURES by the reference: the grounds in their order -/
def gmN (a : Ab) : Nat := cnt (isG a) (aN0 a)
def gm (a : Ab) (k : Nat) : Nat := pick (isG a) (aN0 a) k
theorem isG_t {a : Ab} {i : Nat} : isG a i = true ↔ aKi a i = 1 := by unfold isG; exact decide_eq_true_iff
theorem gm_at {a : Ab} {k : Nat} (hk : k < gmN a) : gm a k < aN0 a ∧ isG a (gm a k) = true ∧ cnt (isG a) (gm a k) = k := by
  obtain ⟨c, c1, c2, c3⟩ := pick_ex (isG a) (aN0 a) k hk
  have : gm a k = c := by unfold gm; rw [← c3]; exact pick_s (isG a) c2 _ c1
  rw [this]
  exact ⟨c1, c2, c3⟩
theorem gm_of {a : Ab} {i : Nat} (hi : i < aN0 a) (h : isG a i = true) : gm a (cnt (isG a) i) = i ∧ cnt (isG a) i < gmN a := ⟨pick_s (isG a) h _ hi, cnt_lt hi h⟩
theorem gm_lt {a : Ab} {j k : Nat} (hk : k < gmN a) (hj : j < k) : gm a j < gm a k := by
  obtain ⟨_, _, a3⟩ := gm_at (a := a) (k := j) (by omega)
  obtain ⟨_, _, b3⟩ := gm_at hk
  rcases Nat.lt_or_ge (gm a j) (gm a k) with q | q
  · exact q
  · have := cnt_le (isG a) q
    omega
theorem gmN_le (a : Ab) : gmN a ≤ aN0 a := cnt_n _ _
def okG (a : Ab) (s : Nat → Nat) : Prop := (∀ k, k < gmN a → s k < 4) ∧ ∀ j k, j < k → k < gmN a → nbrP a (gm a k) (gm a j) → aAp a (s j) (s k) = 1
def cosG (a : Ab) (s : Nat → Nat) (n : Nat) : Nat := sumB (fun _ => true) (fun k => aPr a (s k)) n
theorem cosG_s (a : Ab) (s : Nat → Nat) (n : Nat) : cosG a s (n + 1) = cosG a s n + aPr a (s n) := rfl
theorem cosG_c {a : Ab} {s s' : Nat → Nat} {n : Nat} (h : ∀ k, k < n → s k = s' k) : cosG a s n = cosG a s' n := sumB_cg (fun k hk _ => by rw [h k hk])
theorem pick_up (S : Nat → Bool) {n k : Nat} (h : k < cnt S n) : pick S (n + 1) k = pick S n k := by
  show (if S n = true ∧ cnt S n = k then n else pick S n k) = _
  rw [if_neg (fun q => by omega)]
theorem sum_gm (p : Nat → Bool) (f : Nat → Nat) : ∀ n, sumB p f n = sumB (fun _ => true) (fun k => f (pick p n k)) (cnt p n) := by
  intro n
  induction n with
  | zero => rfl
  | succ n ih =>
    have e1 : sumB (fun _ => true) (fun k => f (pick p (n + 1) k)) (cnt p n) = sumB (fun _ => true) (fun k => f (pick p n k)) (cnt p n) := sumB_cg (fun k hk _ => by rw [pick_up p hk])
    show sumB p f n + (if p n then f n else 0) = sumB (fun _ => true) (fun k => f (pick p (n + 1) k)) (cnt p n + (if p n then 1 else 0))
    cases e : p n
    · simp only [Bool.false_eq_true, if_false, Nat.add_zero]
      rw [e1, ih]
    · simp only [if_true]
      show _ = sumB (fun _ => true) (fun k => f (pick p (n + 1) k)) (cnt p n) + f (pick p (n + 1) (cnt p n))
      rw [e1, ih, pick_s p e (n + 1) (by omega)]
theorem texC_gm (a : Ab) (t : Nat → Nat) : texC a t = cosG a (fun k => t (gm a k)) (gmN a) := sum_gm (isG a) (fun i => aPr a (t i)) (aN0 a)
def unG (a : Ab) (s : Nat → Nat) : Nat → Nat := fun i => s (cnt (isG a) i)
theorem unG_gm {a : Ab} {s : Nat → Nat} {k : Nat} (hk : k < gmN a) : unG a s (gm a k) = s k := by unfold unG; rw [(gm_at hk).2.2]
theorem tex_okG {a : Ab} {t : Nat → Nat} (h : texOK a t) : okG a (fun k => t (gm a k)) :=
  ⟨fun k hk => h.1 _ (gm_at hk).1 (isG_t.mp (gm_at hk).2.1), fun j k hj hk hn => h.2 _ _ (gm_at (by omega)).1 (gm_at hk).1 (nbr_sym hn)⟩
theorem okG_tex {a : Ab} (hw : WF a) {s : Nat → Nat} (h : okG a s) : texOK a (unG a s) := by
  refine ⟨fun i hi hk => h.1 _ (gm_of hi (isG_t.mpr hk)).2, fun i j hi hj hn => ?_⟩
  obtain ⟨a1, a2⟩ := gm_of hi (isG_t.mpr hn.2.1)
  obtain ⟨b1, b2⟩ := gm_of hj (isG_t.mpr hn.2.2.1)
  show aAp a (s (cnt (isG a) i)) (s (cnt (isG a) j)) = 1
  rcases Nat.lt_trichotomy (cnt (isG a) i) (cnt (isG a) j) with q | q | q
  · exact h.2 _ _ q b2 (by rw [a1, b1]; exact nbr_sym hn)
  · exfalso
    rw [q, b1] at a1
    exact hn.1 a1.symm
  · rw [(hw.2.2.2.2.2.2.2.1 _ _ (h.1 _ a2) (h.1 _ b2)).2]
    exact h.2 _ _ q a2 (by rw [a1, b1]; exact hn)
def bstG (a : Ab) (s : Nat → Nat) : Prop := okG a s ∧ ∀ s', okG a s' → cosG a s (gmN a) ≤ cosG a s' (gmN a) ∧ (cosG a s (gmN a) = cosG a s' (gmN a) → lexLE (gmN a) s s')
theorem tex_bst {a : Ab} (hw : WF a) {s : Nat → Nat} (h : bstG a s) : isTex a (unG a s) ∧ texC a (unG a s) = cosG a s (gmN a) := by
  have ec : texC a (unG a s) = cosG a s (gmN a) := by rw [texC_gm]; exact cosG_c (fun k hk => unG_gm hk)
  refine ⟨⟨okG_tex hw h.1, fun t' ht' => ?_⟩, ec⟩
  have h2 := h.2 _ (tex_okG ht')
  rw [ec, texC_gm a t']
  rcases Nat.lt_or_ge (cosG a s (gmN a)) (cosG a (fun k => t' (gm a k)) (gmN a)) with q | q
  · exact Or.inl q
  · have e : cosG a s (gmN a) = cosG a (fun k => t' (gm a k)) (gmN a) := by omega
    refine Or.inr ⟨e, ?_⟩
    rcases h2.2 e with z | ⟨k, k1, k2, k3⟩
    · refine Or.inl (fun i hi => ?_)
      unfold texG
      by_cases g : aKi a i = 1
      · rw [if_pos g, if_pos g]
        obtain ⟨b1, b2⟩ := gm_of hi (isG_t.mpr g)
        have this : s (cnt (isG a) i) = t' (gm a (cnt (isG a) i)) := z _ b2
        rw [b1] at this
        exact this
      · rw [if_neg g, if_neg g]
    · obtain ⟨g1, g2, g3⟩ := gm_at k1
      refine Or.inr ⟨gm a k, g1, ?_, fun j hj => ?_⟩
      · unfold texG
        rw [if_pos (isG_t.mp g2), if_pos (isG_t.mp g2), unG_gm k1]; exact k2
      · unfold texG
        by_cases g : aKi a j = 1
        · rw [if_pos g, if_pos g]
          obtain ⟨b1, b2⟩ := gm_of (show j < aN0 a by omega) (isG_t.mpr g)
          have lt : cnt (isG a) j < k := by
            have := cnt_lt (p := isG a) hj (isG_t.mpr g)
            omega
          have this : s (cnt (isG a) j) = t' (gm a (cnt (isG a) j)) := k3 _ lt
          rw [b1] at this
          exact this
        · rw [if_neg g, if_neg g]
theorem tex_uq {a : Ab} {t t' : Nat → Nat} (h : isTex a t) (h2 : isTex a t') : texC a t = texC a t' ∧ ∀ i, i < aN0 a → aKi a i = 1 → t i = t' i := by
  have q1 := h.2 t' h2.1
  have q2 := h2.2 t h.1
  have e : texC a t = texC a t' := by omega
  refine ⟨e, fun i hi hk => ?_⟩
  have l1 : lexLE (aN0 a) (texG a t) (texG a t') := by
    rcases q1 with z | z
    · omega
    · exact z.2
  have l2 : lexLE (aN0 a) (texG a t') (texG a t) := by
    rcases q2 with z | z
    · omega
    · exact z.2
  have := lex_as l1 l2 i hi
  unfold texG at this
  rw [if_pos hk, if_pos hk] at this
  exact this
/-- s' has been passed by -/
def bef (k : Nat) (s : Nat → Nat) (u : Nat) (s' : Nat → Nat) : Prop := (∃ j, j < k ∧ (∀ i, i < j → s' i = s i) ∧ s' j < s j) ∨ ((∀ i, i < k → s' i = s i) ∧ s' k < u)
theorem bef_dn {k : Nat} {s s' : Nat → Nat} (hk : s' (k + 1) < 4) : bef (k + 1) s 4 s' ↔ bef k s (s k + 1) s' := by
  constructor
  · rintro (⟨j, j1, j2, j3⟩ | ⟨j1, j2⟩)
    · by_cases e : j = k
      · subst e; exact Or.inr ⟨j2, by omega⟩
      · exact Or.inl ⟨j, by omega, j2, j3⟩
    · exact Or.inr ⟨fun i hi => j1 i (by omega), by rw [j1 k (by omega)]; omega⟩
  · rintro (⟨j, j1, j2, j3⟩ | ⟨j1, j2⟩)
    · exact Or.inl ⟨j, by omega, j2, j3⟩
    · rcases Nat.lt_or_ge (s' k) (s k) with q | q
      · exact Or.inl ⟨k, by omega, j1, q⟩
      · refine Or.inr ⟨fun i hi => ?_, hk⟩
        by_cases e : i = k
        · subst e; omega
        · exact j1 i (by omega)
theorem bef_up {k u : Nat} {s s' : Nat → Nat} : bef (k + 1) (u1 s k u) 0 s' ↔ bef k s u s' := by
  constructor
  · rintro (⟨j, j1, j2, j3⟩ | ⟨_, j2⟩)
    · by_cases e : j = k
      · subst e
        rw [u1_s] at j3
        exact Or.inr ⟨fun i hi => by rw [j2 i hi, u1_o _ (by omega)], j3⟩
      · rw [u1_o _ e] at j3
        exact Or.inl ⟨j, by omega, fun i hi => by rw [j2 i hi, u1_o _ (by omega)], j3⟩
    · omega
  · rintro (⟨j, j1, j2, j3⟩ | ⟨j1, j2⟩)
    · exact Or.inl ⟨j, by omega, fun i hi => by rw [j2 i hi, u1_o _ (by omega)], by rw [u1_o _ (by omega)]; exact j3⟩
    · exact Or.inl ⟨k, by omega, fun i hi => by rw [j1 i hi, u1_o _ (by omega)], by rw [u1_s]; exact j2⟩
theorem bef_nx {k u : Nat} {s s' : Nat → Nat} : bef k s (u + 1) s' ↔ bef k s u s' ∨ ((∀ i, i < k → s' i = s i) ∧ s' k = u) := by
  constructor
  · rintro (q | ⟨j1, j2⟩)
    · exact Or.inl (Or.inl q)
    · rcases Nat.lt_or_ge (s' k) u with z | z
      · exact Or.inl (Or.inr ⟨j1, z⟩)
      · exact Or.inr ⟨j1, by omega⟩
  · rintro ((q | ⟨j1, j2⟩) | ⟨j1, j2⟩)
    · exact Or.inl q
    · exact Or.inr ⟨j1, by omega⟩
    · exact Or.inr ⟨j1, by omega⟩
theorem bef_lex {m k u : Nat} {s sb s' : Nat → Nat} (hk : k < m) (h : bef k s u sb) (h1 : ∀ i, i < k → s' i = s i) (h2 : s' k = u) : lexLE m sb s' := by
  rcases h with ⟨j, j1, j2, j3⟩ | ⟨j1, j2⟩
  · exact Or.inr ⟨j, by omega, by rw [h1 j j1]; exact j3, fun i hi => by rw [j2 i hi, h1 i (by omega)]⟩
  · exact Or.inr ⟨k, hk, by omega, fun i hi => by rw [j1 i hi, h1 i hi]⟩
def bInv (a : Ab) (P : (Nat → Nat) → Prop) (σ : tk_S) : Prop := (σ.1 132 21 = -1 ∧ ∀ s', okG a s' → ¬ P s') ∨ ∃ sb, okG a sb ∧ P sb ∧ σ.1 132 21 = nI (cosG a sb (gmN a)) ∧ (∀ j, j < gmN a → σ.1 148 j = nI (sb j)) ∧ ∀ s', okG a s' → P s' → cosG a sb (gmN a) ≤ cosG a s' (gmN a) ∧ (cosG a sb (gmN a) = cosG a s' (gmN a) → lexLE (gmN a) sb s')
theorem bInv.c {a : Ab} {P P' : (Nat → Nat) → Prop} {σ : tk_S} (h : bInv a P σ) (e : ∀ s', okG a s' → (P s' ↔ P' s')) : bInv a P' σ := by
  rcases h with ⟨q1, q2⟩ | ⟨sb, q1, q2, q3, q4, q5⟩
  · exact Or.inl ⟨q1, fun s' h' hp => q2 s' h' ((e s' h').mpr hp)⟩
  · exact Or.inr ⟨sb, q1, (e sb q1).mp q2, q3, q4, fun s' h' hp => q5 s' h' ((e s' h').mpr hp)⟩
theorem bInv.fr {a : Ab} {P : (Nat → Nat) → Prop} {σ σ1 : tk_S} (h : bInv a P σ) (e1 : σ1.1 132 21 = σ.1 132 21) (e2 : ∀ j, σ1.1 148 j = σ.1 148 j) : bInv a P σ1 := by
  rcases h with ⟨q1, q2⟩ | ⟨sb, q1, q2, q3, q4, q5⟩
  · exact Or.inl ⟨e1.trans q1, q2⟩
  · exact Or.inr ⟨sb, q1, q2, e1.trans q3, fun j hj => (e2 j).trans (q4 j hj), q5⟩
/-- a beginning that goes well -/
def preG (a : Ab) (k : Nat) (s : Nat → Nat) : Prop := (∀ j, j < k → s j < 4) ∧ ∀ i j, i < j → j < k → nbrP a (gm a j) (gm a i) → aAp a (s i) (s j) = 1
theorem preG_up {a : Ab} {k u : Nat} {s : Nat → Nat} (h : preG a k s) (hu : u < 4) (hf : ∀ j, j < k → nbrP a (gm a k) (gm a j) → aAp a (s j) u = 1) : preG a (k + 1) (u1 s k u) := by
  refine ⟨fun j hj => ?_, fun i j hij hj hn => ?_⟩
  · by_cases e : j = k
    · subst e; rw [u1_s]; exact hu
    · rw [u1_o _ e]; exact h.1 j (by omega)
  · by_cases e : j = k
    · subst e; rw [u1_s, u1_o _ (by omega)]; exact hf i hij hn
    · rw [u1_o _ e, u1_o _ (by omega)]; exact h.2 i j hij (by omega) hn
theorem cosG_le {a : Ab} (hw : WF a) {s : Nat → Nat} : ∀ n, (∀ k, k < n → s k < 4) → cosG a s n ≤ 99 * n := by
  intro n
  induction n with
  | zero => intro _; exact Nat.le_refl _
  | succ n ih =>
    intro h
    have := ih (fun k hk => h k (by omega))
    have := hw.2.2.2.2.2.2.2.2.2.1 _ (h n (by omega))
    rw [cosG_s]; omega
theorem cosG_low {a : Ab} {s : Nat → Nat} {l : Nat} (hl : ∀ t, t < 4 → l ≤ aPr a t) {k : Nat} : ∀ n, k ≤ n → (∀ j, j < n → s j < 4) → cosG a s k + l * (n - k) ≤ cosG a s n := by
  intro n
  induction n with
  | zero => intro h _; rw [show k = 0 by omega]; exact Nat.le_refl _
  | succ n ih =>
    intro h hs
    by_cases e : k = n + 1
    · subst e; rw [Nat.sub_self, Nat.mul_zero]; exact Nat.le_refl _
    · have h1 := ih (by omega) (fun j hj => hs j (by omega))
      have h2 := hl _ (hs n (by omega))
      rw [cosG_s, show n + 1 - k = (n - k) + 1 by omega, Nat.mul_add, Nat.mul_one]
      omega
