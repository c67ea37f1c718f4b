/-! TEXTURES: ways, their weights, the least of them -/
abbrev NW : Int64 := 1152921504606846976
theorem iL_lt2 {a b : Int} (h1 : -4000000000000000000 ≤ a) (h2 : a ≤ 4000000000000000000) (h3 : -4000000000000000000 ≤ b) (h4 : b ≤ 4000000000000000000) : iL a < iL b ↔ a < b := by
  rw [Int64.lt_iff_toInt_lt]
  unfold iL
  rw [Int64.toInt_ofInt_of_le (by omega) (by omega), Int64.toInt_ofInt_of_le (by omega) (by omega)]
theorem iL_le2 {a b : Int} (h1 : -4000000000000000000 ≤ a) (h2 : a ≤ 4000000000000000000) (h3 : -4000000000000000000 ≤ b) (h4 : b ≤ 4000000000000000000) : iL a ≤ iL b ↔ a ≤ b := by
  rw [Int64.le_iff_toInt_le]
  unfold iL
  rw [Int64.toInt_ofInt_of_le (by omega) (by omega), Int64.toInt_ofInt_of_le (by omega) (by omega)]
theorem iL_eq2 {a b : Int} (h1 : -4000000000000000000 ≤ a) (h2 : a ≤ 4000000000000000000) (h3 : -4000000000000000000 ≤ b) (h4 : b ≤ 4000000000000000000) : iL a = iL b ↔ a = b := by
  rw [← Int64.toInt_inj]
  unfold iL
  rw [Int64.toInt_ofInt_of_le (by omega) (by omega), Int64.toInt_ofInt_of_le (by omega) (by omega)]
theorem iL_sub (a b : Int) : iL a - iL b = iL (a - b) := (Int64.ofInt_sub a b).symm
theorem iL_add (a b : Int) : iL a + iL b = iL (a + b) := (Int64.ofInt_add a b).symm
theorem lN_iL (n : Nat) : lN n = iL n := (Int64.ofInt_eq_ofNat (n := n)).symm
theorem NW_iL : NW = iL 1152921504606846976 := by decide +kernel
def wG (a : Ab) (g t : Nat) : Nat := aPr a t * 16777216 + t * 4 ^ (11 - g)
def asg (a : Ab) (A : Nat → Bool) (M : Nat → Nat) (t : Nat → Nat) : Prop := (∀ g, A g = true → t g < 4 ∧ (M g).testBit (t g) = true) ∧ ∀ g h, A g = true → A h = true → nbrP a g h → aAp a (t g) (t h) = 1
def wt (a : Ab) (A : Nat → Bool) (t : Nat → Nat) : Nat := sumB A (fun g => wG a g (t g)) 12
def minW (a : Ab) (A : Nat → Bool) (M : Nat → Nat) (L : Int) (r : Int64) : Prop := (r = NW ∧ ∀ t, asg a A M t → L ≤ (wt a A t : Int)) ∨ ∃ t, asg a A M t ∧ (wt a A t : Int) < L ∧ r = lN (wt a A t) ∧ ∀ t', asg a A M t' → wt a A t ≤ wt a A t'
def isChp (a : Ab) (m c : Nat) : Prop := c < 4 ∧ m.testBit c = true ∧ ∀ t, t < 4 → m.testBit t = true → aPr a c < aPr a t ∨ (aPr a c = aPr a t ∧ c ≤ t)
theorem pw_le (g : Nat) : 4 ^ (11 - g) ≤ 4194304 := by
  have : 4 ^ (11 - g) ≤ 4 ^ 11 := Nat.pow_le_pow_right (by omega) (by omega)
  exact this
theorem wG_lt {a : Ab} (hw : WF a) {g t : Nat} (ht : t < 4) : wG a g t < 2147483648 := by
  have h1 := hw.2.2.2.2.2.2.2.2.2.1 t ht
  have h2 : t * 4 ^ (11 - g) ≤ 3 * 4194304 := Nat.mul_le_mul (by omega) (pw_le g)
  unfold wG
  omega
theorem chp_le {a : Ab} {m c g t : Nat} (h : isChp a m c) (ht : t < 4) (hm : m.testBit t = true) : wG a g c ≤ wG a g t := by
  unfold wG
  rcases h.2.2 t ht hm with q | ⟨q1, q2⟩
  · have h2 : c * 4 ^ (11 - g) ≤ 3 * 4194304 := Nat.mul_le_mul (by have := h.1; omega) (pw_le g)
    omega
  · have h2 : c * 4 ^ (11 - g) ≤ t * 4 ^ (11 - g) := Nat.mul_le_mul_right _ q2
    rw [q1]; omega
theorem sumB_le {p : Nat → Bool} {f : Nat → Nat} {B : Nat} : ∀ {n : Nat}, (∀ i, i < n → p i = true → f i ≤ B) → sumB p f n ≤ n * B := by
  intro n
  induction n with
  | zero => intro _; exact Nat.zero_le _
  | succ n ih =>
    intro h
    have h1 := ih (fun i hi => h i (by omega))
    show sumB p f n + (if p n then f n else 0) ≤ _
    rw [Nat.succ_mul]
    cases e : p n
    · simp; omega
    · have := h n (by omega) e
      simp; omega
theorem sumB_mono {p : Nat → Bool} {f g : Nat → Nat} : ∀ {n : Nat}, (∀ i, i < n → p i = true → f i ≤ g i) → sumB p f n ≤ sumB p g n := by
  intro n
  induction n with
  | zero => intro _; exact Nat.le_refl _
  | succ n ih =>
    intro h
    have h1 := ih (fun i hi => h i (by omega))
    show sumB p f n + (if p n then f n else 0) ≤ sumB p g n + (if p n then g n else 0)
    cases e : p n
    · simpa using h1
    · have := h n (by omega) e
      simp; omega
theorem sumB_cg {p : Nat → Bool} {f g : Nat → Nat} {n : Nat} (h : ∀ i, i < n → p i = true → f i = g i) : sumB p f n = sumB p g n :=
  Nat.le_antisymm (sumB_mono (fun i hi hp => Nat.le_of_eq (h i hi hp))) (sumB_mono (fun i hi hp => Nat.le_of_eq (h i hi hp).symm))
theorem sumB_split {p q r : Nat → Bool} (f : Nat → Nat) : ∀ {n : Nat}, (∀ i, i < n → p i = (q i || r i)) → (∀ i, i < n → q i = true → r i = false) → sumB p f n = sumB q f n + sumB r f n := by
  intro n
  induction n with
  | zero => intro _ _; rfl
  | succ n ih =>
    intro h1 h2
    have := ih (fun i hi => h1 i (by omega)) (fun i hi => h2 i (by omega))
    show sumB p f n + (if p n then f n else 0) = sumB q f n + (if q n then f n else 0) + (sumB r f n + (if r n then f n else 0))
    rw [this, h1 n (by omega)]
    cases e : q n
    · simp; omega
    · rw [h2 n (by omega) e]; simp; omega
theorem cnt_split {p q r : Nat → Bool} {n : Nat} (h1 : ∀ i, i < n → p i = (q i || r i)) (h2 : ∀ i, i < n → q i = true → r i = false) : cnt p n = cnt q n + cnt r n := by
  rw [← sum_one, ← sum_one, ← sum_one]
  exact sumB_split _ h1 h2
theorem wt_lt {a : Ab} (hw : WF a) {A : Nat → Bool} {t : Nat → Nat} (h : ∀ g, A g = true → t g < 4) : wt a A t < 100000000000 := by
  have := sumB_le (p := A) (f := fun g => wG a g (t g)) (B := 2147483648) (n := 12) (fun i _ hp => Nat.le_of_lt (wG_lt hw (h i hp)))
  unfold wt
  omega
theorem wt_split {a : Ab} {A B R : Nat → Bool} {t : Nat → Nat} (h1 : ∀ i, A i = (B i || R i)) (h2 : ∀ i, B i = true → R i = false) : wt a A t = wt a B t + wt a R t := sumB_split _ (fun i _ => h1 i) (fun i _ => h2 i)
theorem asg_sub {a : Ab} {A B : Nat → Bool} {M t : Nat → Nat} (h : asg a A M t) (hs : ∀ g, B g = true → A g = true) : asg a B M t := ⟨fun g hg => h.1 g (hs g hg), fun g k hg hk hn => h.2 g k (hs g hg) (hs k hk) hn⟩
theorem nbr_sym {a : Ab} {i j : Nat} (h : nbrP a i j) : nbrP a j i := ⟨fun q => h.1 q.symm, h.2.2.1, h.2.1, reach_sym h.2.2.2⟩
def mix (B : Nat → Bool) (t1 t2 : Nat → Nat) : Nat → Nat := fun g => if B g = true then t1 g else t2 g
theorem mix_asg {a : Ab} {A B R : Nat → Bool} {M t1 t2 : Nat → Nat} (h1 : ∀ i, A i = (B i || R i)) (h2 : ∀ i, B i = true → R i = false) (h3 : ∀ g k, B g = true → R k = true → ¬ nbrP a g k) (b : asg a B M t1) (r : asg a R M t2) : asg a A M (mix B t1 t2) := by
  have cs : ∀ g, A g = true → (B g = true ∧ mix B t1 t2 g = t1 g) ∨ (B g = false ∧ R g = true ∧ mix B t1 t2 g = t2 g) := fun g hg => by
    unfold mix
    cases e : B g
    · rw [h1, e, Bool.false_or] at hg
      exact Or.inr ⟨rfl, hg, by simp⟩
    · exact Or.inl ⟨rfl, by simp⟩
  refine ⟨fun g hg => ?_, fun g k hg hk hn => ?_⟩
  · rcases cs g hg with ⟨q1, q2⟩ | ⟨q0, q1, q2⟩
    · rw [q2]; exact b.1 g q1
    · rw [q2]; exact r.1 g q1
  · rcases cs g hg with ⟨q1, q2⟩ | ⟨q0, q1, q2⟩
    · rcases cs k hk with ⟨z1, z2⟩ | ⟨z0, z1, z2⟩
      · rw [q2, z2]; exact b.2 g k q1 z1 hn
      · exact absurd hn (h3 g k q1 z1)
    · rcases cs k hk with ⟨z1, z2⟩ | ⟨z0, z1, z2⟩
      · exact absurd (nbr_sym hn) (h3 k g z1 q1)
      · rw [q2, z2]; exact r.2 g k q1 z1 hn
theorem mix_wt {a : Ab} {A B R : Nat → Bool} {t1 t2 : Nat → Nat} (h1 : ∀ i, A i = (B i || R i)) (h2 : ∀ i, B i = true → R i = false) : wt a A (mix B t1 t2) = wt a B t1 + wt a R t2 := by
  have e1 : wt a B (mix B t1 t2) = wt a B t1 := sumB_cg (fun i _ hp => by simp [mix, hp])
  have e2 : wt a R (mix B t1 t2) = wt a R t2 := sumB_cg (fun i _ hp => by
    have : B i = false := by
      cases e : B i
      · rfl
      · rw [h2 i e] at hp; cases hp
    simp [mix, this])
  rw [wt_split h1 h2, e1, e2]
/-- what a set weighs with its cheapest -/
def cwt (a : Ab) (C M : Nat → Nat) (A : Nat → Bool) : Nat := wt a A (fun g => C (M g))
theorem cwt_le {a : Ab} {C M : Nat → Nat} {A : Nat → Bool} (hC : ∀ g, A g = true → isChp a (M g) (C (M g))) {t : Nat → Nat} (h : asg a A M t) : cwt a C M A ≤ wt a A t := sumB_mono (fun i _ hp => chp_le (hC i hp) (h.1 i hp).1 (h.1 i hp).2)
def wv (a : Ab) (C B : Nat → Nat) (σ : tk_S) : Prop := (∀ s t, s < 4 → bt (σ.1 31 s) t = decide (t < 4 ∧ aAp a s t = 1)) ∧ (∀ t, t < 4 → σ.1 32 t = nI (aPr a t)) ∧ (∀ g, g < aN0 a → aKi a g = 1 → ∀ h, bt (σ.1 33 g) h = pB (h < aN0 a ∧ nbrP a g h)) ∧ (∀ k, k < 4 → σ.1 34 k = nI (B k) ∧ B k < 4) ∧ (∀ t, t < 4 → ∃ k, k < 4 ∧ B k = t) ∧ ∀ m, 1 ≤ m → m < 16 → σ.1 35 m = nI (C m) ∧ isChp a m (C m)
def frW (lv : Nat) : Nat → Nat → Prop := fun k _ => k = 36 ∨ (38 + lv < k ∧ k ≤ 50)
theorem wv.fr {a : Ab} {C B : Nat → Nat} {σ σ1 : tk_S} {lv : Nat} (h : wv a C B σ) (f : Fr (frW lv) σ σ1) : wv a C B σ1 := by
  have e : ∀ k j, k ≤ 35 → σ1.1 k j = σ.1 k j := fun k j hk => f k j (by unfold frW; omega)
  obtain ⟨h1, h2, h3, h4, h5, h6⟩ := h
  exact ⟨fun s t hs => by rw [e _ _ (by omega)]; exact h1 s t hs, fun t ht => by rw [e _ _ (by omega)]; exact h2 t ht, fun g hg hk k => by rw [e _ _ (by omega)]; exact h3 g hg hk k, fun k hk => by rw [e _ _ (by omega)]; exact h4 k hk, h5, fun m h1 h2 => by rw [e _ _ (by omega)]; exact h6 m h1 h2⟩
/-- grounds alone -/
def subs (a : Ab) (x : Int32) : Prop := ∀ g, bt x g = true → g < aN0 a ∧ aKi a g = 1
def opn (σ : tk_S) (lv : Nat) (x : Int32) (M : Nat → Nat) : Prop := ∀ g, bt x g = true → σ.1 (38 + lv) g = nI (M g) ∧ M g < 16
theorem opn.fr {σ σ1 : tk_S} {lv : Nat} {x : Int32} {M : Nat → Nat} (h : opn σ lv x M) (f : Fr (frW lv) σ σ1) : opn σ1 lv x M := fun g hg => by rw [f _ _ (by unfold frW; omega)]; exact h g hg
theorem opn.sb {σ : tk_S} {lv : Nat} {x y : Int32} {M : Nat → Nat} (h : opn σ lv x M) (hs : ∀ g, bt y g = true → bt x g = true) : opn σ lv y M := fun g hg => h g (hs g hg)
theorem sh_open : ∀ lv, lv < 13 → tk_sh (38 + lv) = tk_ia 12 := by decide +kernel
theorem shl_p : ∀ p, p < 100 → (lN p) <<< (Int32.toInt64 24 &&& 63) = lN (p * 16777216) := by decide +kernel
theorem shl_t : ∀ t, t < 4 → ∀ g, g < 12 → (lN t) <<< (Int32.toInt64 (2 * (11 - nI g)) &&& 63) = lN (t * 4 ^ (11 - g)) := by decide +kernel
theorem s_weight (d : Nat) {a : Ab} (hw : WF a) {g t : Nat} (hg : g < 12) (ht : t < 4) (σ : tk_S) (hp : σ.1 32 t = nI (aPr a t)) (Q : Int64 → tk_S → Prop) (h : Q (lN (wG a g t)) σ) : p_X6_weight (d + 1) [aN 30, aI (nI g), aI (nI t)] σ Q := by
  have h9 := hw.2.2.2.2.2.2.2.2.2.1 t ht
  refine e_X6_weight (d + 1) _ _ (b_X6_weight_0 d _ _ σ Q ⟨vp_in_nI ht (by omega), e_X6_placeOf d _ (b_X6_placeOf_0 d _ σ _ ?_)⟩)
  rw [nI_clamp (by omega), hp, nI_l (by omega), nI_l (by omega), shl_p _ (by omega), shl_t t ht g hg, lN_add]
  exact h
set_option maxHeartbeats 1000000 in
theorem s_cheap (d : Nat) {a : Ab} (hw : WF a) {C B M : Nat → Nat} {lv : Nat} (hlv : lv < 13) (x : Int32) (hx : subs a x) (σ : tk_S) (hv : wv a C B σ) (hM : opn σ lv x M) (Q : Int64 → tk_S → Prop) (h0 : (∃ g, bt x g = true ∧ M g = 0) → Q NW σ) (h1 : (∀ g, bt x g = true → 1 ≤ M g) → Q (lN (cwt a C M (bt x))) σ) : p_X6_cheapestWeight (d + 2) [aN 30, aI x, aN (38 + lv)] σ Q := by
  have hn := hw.1
  refine e_X6_cheapestWeight (d + 2) _ _ (b_X6_cheapestWeight_0 (d + 1) _ _ (sh_open lv hlv) σ Q ?_)
  have L := up_loop (fun g => (∀ g', g' < g → bt x g' = true → 1 ≤ M g') → g_X6_cheapestWeight (d + 2) 5 [(0, aN 30), (1, aI x), (2, aN (38 + lv)), (3, aL (lN (sumB (bt x) (fun g => wG a g (C (M g))) g))), (5, aI (nI g))] σ Q) 12 ?_ ?_
  · exact L (fun g' hg => by omega)
  · intro hz
    exact b_X6_cheapestWeight_5 (d + 1) _ _ (sh_open lv hlv) _ _ σ Q ⟨fun _ => h1 (fun g hg => hz g (by have := (hx g hg).1; omega) hg), fun c => absurd (by decide) c⟩
  · intro g hg ih hz
    refine b_X6_cheapestWeight_5 (d + 1) _ _ (sh_open lv hlv) _ _ σ Q ⟨fun c => absurd ((le_nI (n := 12) (by omega) (by omega)).mp c) (by omega), fun _ => ?_⟩
    refine s_X7_has (d + 1) _ (by omega) σ _ ?_
    rw [nI_1, nI_clamp (by omega)]
    refine ⟨fun c => ?_, fun c => ⟨vp_in_nI (by omega) (by omega), fun c2 => ⟨vp_in_nI (by omega) (by omega), ?_⟩, fun c2 => ?_⟩⟩
    · have c := b2i_0.mp c
      have e := ih (fun g' h' hb => by
        by_cases z : g' = g
        · subst z; rw [c] at hb; cases hb
        · exact hz g' (by omega) hb)
      have es : sumB (bt x) (fun g => wG a g (C (M g))) (g + 1) = sumB (bt x) (fun g => wG a g (C (M g))) g := by
        show sumB (bt x) (fun g => wG a g (C (M g))) g + (if bt x g then wG a g (C (M g)) else 0) = _
        rw [c]; rfl
      rw [es] at e
      exact e
    · have c := b2i_n.mp c
      obtain ⟨m1, m2⟩ := hM g c
      rw [m1] at c2 ⊢
      have hne : 1 ≤ M g := by
        rcases Nat.eq_zero_or_pos (M g) with z | z
        · rw [z] at c2; exact absurd rfl c2
        · exact z
      obtain ⟨k1, k2⟩ := hv.2.2.2.2.2 (M g) hne m2
      refine ⟨vp_in_nI m2 (by omega), ?_⟩
      rw [nI_clamp (by omega), k1]
      refine s_weight d hw hg k2.1 σ (hv.2.1 _ k2.1) _ (fun z e => ?_)
      rw [lN_add] at e
      subst e
      have e := ih (fun g' h' hb => by
        by_cases z : g' = g
        · subst z; exact hne
        · exact hz g' (by omega) hb)
      have es : sumB (bt x) (fun g => wG a g (C (M g))) (g + 1) = sumB (bt x) (fun g => wG a g (C (M g))) g + wG a g (C (M g)) := by
        show sumB (bt x) (fun g => wG a g (C (M g))) g + (if bt x g then wG a g (C (M g)) else 0) = _
        rw [c]; rfl
      rw [es] at e
      exact e
    · have c := b2i_n.mp c
      obtain ⟨m1, m2⟩ := hM g c
      rw [m1] at c2
      exact h0 ⟨g, c, (nI_eq (b := 0) (by omega) (by omega)).mp c2⟩
set_option maxHeartbeats 1000000 in
theorem s_takers (d : Nat) {a : Ab} (hw : WF a) {C B M : Nat → Nat} {lv : Nat} (hlv : lv < 13) (x : Int32) (hx : subs a x) (σ : tk_S) (hv : wv a C B σ) (hM : opn σ lv x M) (h1 : ∀ g, bt x g = true → 1 ≤ M g) (Q : tk_S → Prop) (h : ∀ σ', Fr (fun k _ => k = 36) σ σ' → σ'.2 = σ.2 → (∀ t, t < 4 → ∀ g, bt (σ'.1 36 t) g = (bt x g && decide (C (M g) = t))) → Q σ') : p_X6_listTakers (d + 1) [aN 30, aI x, aN (38 + lv)] σ Q := by
  have hn := hw.1
  refine e_X6_listTakers (d + 1) _ _ (b_X6_listTakers_0 d _ _ (sh_open lv hlv) σ Q ?_)
  have L := up_loop (fun t => g_X6_listTakers (d + 1) 2 [(0, aN 30), (1, aI x), (2, aN (38 + lv)), (3, aI (nI t))] (tk_fill σ 36 t (fun _ => 0)) Q) 4 ?_ ?_
  · rw [tk_fill_0] at L
    exact L
  · refine b_X6_listTakers_2 d _ _ (sh_open lv hlv) _ _ Q ⟨fun _ => ?_, fun c => absurd (by decide) c⟩
    have L2 := up_loop (fun g => ∀ σ1, Fr (fun k _ => k = 36) σ σ1 → σ1.2 = σ.2 → (∀ t, t < 4 → ∀ g', bt (σ1.1 36 t) g' = (decide (g' < g) && (bt x g' && decide (C (M g') = t)))) → g_X6_listTakers (d + 1) 22 [(0, aN 30), (1, aI x), (2, aN (38 + lv)), (3, aI (nI g))] σ1 Q) 12 ?_ ?_
    · refine L2 _ (Fr.fill σ _ (fun j => rfl)) rfl (fun t ht g' => ?_)
      rw [tk_fill_s]
      show bt (if t < 4 then 0 else σ.1 36 t) g' = _
      rw [if_pos ht, b_0]; simp
    · intro σ1 f1 g1 c1
      refine b_X6_listTakers_22 d _ _ (sh_open lv hlv) _ σ1 Q ⟨fun _ => h σ1 f1 g1 (fun t ht g => ?_), fun c => absurd (by decide) c⟩
      rw [c1 t ht g]
      cases e : bt x g
      · simp
      · rw [decide_eq_true (by have := (hx g e).1; omega : g < 12)]; simp
    · intro g hg ih σ1 f1 g1 c1
      have hv1 : wv a C B σ1 := hv.fr (lv := lv) (f1.wk (fun k j q => Or.inl q))
      have hM1 : opn σ1 lv x M := hM.fr (f1.wk (fun k j q => Or.inl q))
      refine b_X6_listTakers_22 d _ _ (sh_open lv hlv) _ σ1 Q ⟨fun c => absurd ((le_nI (n := 12) (by omega) (by omega)).mp c) (by omega), fun _ => ?_⟩
      refine s_X7_has d _ (by omega) σ1 _ ?_
      rw [nI_1, nI_clamp (by omega)]
      refine ⟨fun c => ih σ1 f1 g1 (fun t ht g' => ?_), fun c => ⟨vp_in_nI (by omega) (by omega), ?_⟩⟩
      · have c := b2i_0.mp c
        rw [c1 t ht g']
        by_cases z : g' = g
        · subst z; rw [c]; simp
        · congr 1
          exact decide_eq_decide.mpr ⟨fun _ => by omega, fun _ => by omega⟩
      · have c := b2i_n.mp c
        obtain ⟨m1, m2⟩ := hM1 g c
        obtain ⟨k1, k2⟩ := hv1.2.2.2.2.2 (M g) (h1 g c) m2
        have kc := k2.1
        rw [m1, nI_clamp (by omega), k1, nI_clamp (by omega)]
        refine ⟨vp_in_nI m2 (by omega), vp_in_nI kc (by omega), vp_in_nI kc (by omega), ih _ (f1.tr (Fr.up _ _ rfl)) g1 (fun t ht g' => ?_)⟩
        by_cases z : t = C (M g)
        · subst z
          rw [rd_s, b_or, c1 _ ht g', bt_1 (by omega)]
          by_cases z : g' = g
          · subst z; rw [c]; simp
          · rw [decide_eq_false z, Bool.or_false]
            congr 1
            exact decide_eq_decide.mpr ⟨fun _ => by omega, fun _ => by omega⟩
        · rw [rd_o (by omega), c1 t ht g']
          by_cases z2 : g' = g
          · subst z2
            have zz : ¬ C (M g') = t := fun q => z q.symm
            simp [zz]
          · congr 1
            exact decide_eq_decide.mpr ⟨fun _ => by omega, fun _ => by omega⟩
  · intro t ht ih
    refine b_X6_listTakers_2 d _ _ (sh_open lv hlv) _ _ Q ⟨fun c => absurd ((le_nI (n := 4) (by omega) (by omega)).mp c) (by omega), fun _ => ⟨vp_in_nI ht (by omega), ?_⟩⟩
    rw [nI_clamp (by omega), nI_1, tk_fill_up _ _ _ _ rfl]
    exact ih
theorem s_clashWith (d : Nat) {a : Ab} {C B M : Nat → Nat} (x : Int32) (σ : tk_S) (hv : wv a C B σ) (hc : ∀ g, bt x g = true → C (M g) < 4) (hT : ∀ t, t < 4 → ∀ g, bt (σ.1 36 t) g = (bt x g && decide (C (M g) = t))) {t : Nat} (ht : t < 4) (Q : Int32 → tk_S → Prop) (h : ∀ U : Int32, (∀ g, bt U g = pB (bt x g = true ∧ ¬ aAp a t (C (M g)) = 1)) → Q U σ) : p_X6_clashWith (d + 1) [aN 30, aI (nI t)] σ Q := by
  refine e_X6_clashWith (d + 1) _ (b_X6_clashWith_0 d _ σ Q ?_)
  have L := up_loop (fun s => ∀ U : Int32, (∀ g, bt U g = pB (bt x g = true ∧ C (M g) < s ∧ ¬ aAp a t (C (M g)) = 1)) → g_X6_clashWith (d + 1) 4 [(0, aN 30), (1, aI (nI t)), (2, aI U), (3, aI (nI s))] σ Q) 4 ?_ ?_
  · exact L 0 (fun g => by rw [b_0]; exact (pB_f.mpr (fun q => by omega)).symm)
  · intro U hU
    refine b_X6_clashWith_4 d _ _ _ σ Q ⟨fun _ => h U (fun g => ?_), fun c => absurd (by decide) c⟩
    rw [hU g]
    exact pB_c ⟨fun q => ⟨q.1, q.2.2⟩, fun q => ⟨q.1, hc g q.1, q.2⟩⟩
  · intro s hs ih U hU
    refine b_X6_clashWith_4 d _ _ _ σ Q ⟨fun c => absurd ((le_nI (n := 4) (by omega) (by omega)).mp c) (by omega), fun _ => ⟨vp_in_nI ht (by omega), ?_⟩⟩
    refine s_X7_has d _ (by omega) σ _ ?_
    rw [nI_1, nI_clamp (by omega), nI_clamp (by omega), hv.1 t s ht]
    refine ⟨fun c => ⟨vp_in_nI hs (by omega), fun z e => ih z (fun g => ?_)⟩, fun c z e => ih z (fun g => ?_)⟩
    · have c := of_decide_eq_false (b2i_0.mp c)
      rw [e, b_or, hU g, hT s hs g]
      apply Bool.eq_iff_iff.mpr
      rw [Bool.or_eq_true, pB_t, pB_t, Bool.and_eq_true, decide_eq_true_iff]
      constructor
      · rintro (q | q)
        · exact ⟨q.1, by omega, q.2.2⟩
        · exact ⟨q.1, by omega, fun z => c ⟨hs, by rw [q.2] at z; exact z⟩⟩
      · rintro ⟨q1, q2, q3⟩
        by_cases z : C (M g) = s
        · exact Or.inr ⟨q1, z⟩
        · exact Or.inl ⟨q1, by omega, q3⟩
    · have c := of_decide_eq_true (b2i_n.mp c)
      rw [e, b_or, b_0, Bool.or_false, hU g]
      refine pB_c ⟨fun q => ⟨q.1, by omega, q.2.2⟩, fun q => ⟨q.1, ?_, q.2.2⟩⟩
      by_cases z : C (M g) = s
      · exact absurd (by rw [z]; exact c.2) q.2.2
      · omega
