/-! what the document's state is: numbers by place; and how the class' cells and the reference's cells hold it -/
abbrev Ab : Type := Nat → Nat → Nat → Nat
abbrev aN0 (a : Ab) : Nat := a 0 0 0
abbrev aWn (a : Ab) : Nat := a 0 1 0
abbrev aGap (a : Ab) : Nat := a 0 2 0
abbrev aKi (a : Ab) (i : Nat) : Nat := a 1 i 0
abbrev aWo (a : Ab) (i : Nat) : Nat := a 2 i 0
abbrev aNc (a : Ab) (i : Nat) : Nat := a 3 i 0
abbrev aX (a : Ab) (i k : Nat) : Nat := a 4 i k
abbrev aY (a : Ab) (i k : Nat) : Nat := a 5 i k
abbrev aMe (a : Ab) (i j : Nat) : Nat := a 6 i j
abbrev aAp (a : Ab) (s t : Nat) : Nat := a 7 s t
abbrev aPr (a : Ab) (t : Nat) : Nat := a 8 t 0
abbrev aWX (a : Ab) (k : Nat) : Nat := a 9 k 0
abbrev aWY (a : Ab) (k : Nat) : Nat := a 10 k 0
abbrev aUp (a : Ab) (x y : Nat) : Nat := a 11 x y
def up3 (a : Ab) (c i j v : Nat) : Ab := fun c' i' j' => if c' = c ∧ i' = i ∧ j' = j then v else a c' i' j'
theorem up3_s (a : Ab) (c i j v : Nat) : up3 a c i j v c i j = v := by simp [up3]
theorem up3_o (a : Ab) {c i j v c' i' j' : Nat} (h : ¬ (c' = c ∧ i' = i ∧ j' = j)) : up3 a c i j v c' i' j' = a c' i' j' := by simp [up3, h]
theorem up3_c (a : Ab) {c i j v c' i' j' : Nat} (h : c' ≠ c) : up3 a c i j v c' i' j' = a c' i' j' := up3_o a (fun q => h q.1)
/-- the step from corner k to the next: its greater side -/
def stN (a : Ab) (i k : Nat) : Nat := max (((aX a i (k + 1) : Int) - aX a i k).natAbs) (((aY a i (k + 1) : Int) - aY a i k).natAbs)
def stX (a : Ab) (i k t : Nat) : Int := (aX a i k : Int) + (2 * (t : Int) * ((aX a i (k + 1) : Int) - aX a i k) + stN a i k) / (2 * (stN a i k : Int))
def stY (a : Ab) (i k t : Nat) : Int := (aY a i k : Int) + (2 * (t : Int) * ((aY a i (k + 1) : Int) - aY a i k) + stN a i k) / (2 * (stN a i k : Int))
/-- x, y is a pin of the line's first n corners -/
def lineP (a : Ab) (i n x y : Nat) : Prop := (x = aX a i 0 ∧ y = aY a i 0) ∨ ∃ k t : Nat, k + 1 < n ∧ 0 < stN a i k ∧ t ≤ stN a i k ∧ (x : Int) = stX a i k t ∧ (y : Int) = stY a i k t
def groundP (a : Ab) (i x y : Nat) : Prop := aX a i 0 ≤ x ∧ x ≤ aX a i 1 ∧ aY a i 0 ≤ y ∧ y ≤ aY a i 1
def markP (a : Ab) (i x y : Nat) : Prop := (x = aX a i 0 ∧ y = aY a i 0) ∨ (x = aX a i 0 + 1 ∧ y = aY a i 0) ∨ (x + 1 = aX a i 0 ∧ y = aY a i 0) ∨ (x = aX a i 0 ∧ y = aY a i 0 + 1) ∨ (x = aX a i 0 ∧ y + 1 = aY a i 0)
def pinP (a : Ab) (i x y : Nat) : Prop := x < 24 ∧ y < 24 ∧ ((aKi a i = 0 ∧ lineP a i (aNc a i) x y) ∨ (aKi a i = 1 ∧ groundP a i x y) ∨ (aKi a i = 2 ∧ markP a i x y))
noncomputable def pB (P : Prop) : Bool := @decide P (Classical.propDecidable P)
theorem pB_t {P : Prop} : pB P = true ↔ P := by unfold pB; exact @decide_eq_true_iff P (Classical.propDecidable P)
theorem pB_f {P : Prop} : pB P = false ↔ ¬ P := by unfold pB; exact @decide_eq_false_iff_not P (Classical.propDecidable P)
theorem pB_c {P P' : Prop} (h : P ↔ P') : pB P = pB P' := by rw [propext h]
/-- pins of i and of j lie within d -/
def reach (a : Ab) (i j d : Nat) : Prop := ∃ x y x' y' : Nat, pinP a i x y ∧ pinP a j x' y' ∧ x ≤ x' + d ∧ x' ≤ x + d ∧ y ≤ y' + d ∧ y' ≤ y + d
def isFar (a : Ab) (i j f : Nat) : Prop := f < 24 ∧ reach a i j f ∧ ∀ e, e < f → ¬ reach a i j e
def nearP (a : Ab) (i j : Nat) : Prop := i ≠ j ∧ aMe a i j = 0 ∧ reach a i j (aGap a - 1)
def nbrP (a : Ab) (i j : Nat) : Prop := i ≠ j ∧ aKi a i = 1 ∧ aKi a j = 1 ∧ reach a i j 3
/-- how many below n -/
def cnt (p : Nat → Bool) : Nat → Nat
  | 0 => 0
  | n + 1 => cnt p n + (if p n then 1 else 0)
theorem cnt_le (p : Nat → Bool) : ∀ {m n : Nat}, m ≤ n → cnt p m ≤ cnt p n := by
  intro m n h
  induction n with
  | zero => rw [show m = 0 by omega]; exact Nat.le_refl _
  | succ n ih =>
    rcases Nat.lt_or_ge m (n + 1) with q | q
    · exact Nat.le_trans (ih (by omega)) (Nat.le_add_right _ _)
    · rw [show m = n + 1 by omega]; exact Nat.le_refl _
theorem cnt_lt {p : Nat → Bool} {m n : Nat} (h : m < n) (hp : p m = true) : cnt p m < cnt p n := by
  have h1 : cnt p (m + 1) ≤ cnt p n := cnt_le p h
  have h2 : cnt p (m + 1) = cnt p m + 1 := by show cnt p m + (if p m then 1 else 0) = _; rw [hp]; rfl
  omega
/-- the sum of f over those below n -/
def sumB (p : Nat → Bool) (f : Nat → Nat) : Nat → Nat
  | 0 => 0
  | n + 1 => sumB p f n + (if p n then f n else 0)
def setOK (a : Ab) (S : Nat) : Prop := S < 2 ^ aN0 a ∧ ∀ i j, i < aN0 a → j < aN0 a → S.testBit i = true → S.testBit j = true → ¬ nearP a i j
def setW (a : Ab) (S : Nat) : Nat := sumB (fun i => S.testBit i) (aWo a) (aN0 a)
def setC (a : Ab) (S : Nat) : Nat := cnt (fun i => S.testBit i) (aN0 a)
def setGE (a : Ab) (S T : Nat) : Prop := setW a T < setW a S ∨ (setW a T = setW a S ∧ (setC a T < setC a S ∨ (setC a T = setC a S ∧ S ≤ T)))
def isKept (a : Ab) (S : Nat) : Prop := setOK a S ∧ ∀ T, setOK a T → setGE a S T
def lexLE (n : Nat) (c c' : Nat → Nat) : Prop := (∀ i, i < n → c i = c' i) ∨ ∃ i, i < n ∧ c i < c' i ∧ ∀ j, j < i → c j = c' j
def colOK (a : Ab) (m : Nat) (c : Nat → Nat) : Prop := (∀ i, i < aN0 a → c i < m) ∧ ∀ i j, i < aN0 a → j < aN0 a → nearP a i j → c i ≠ c j
def isLay (a : Ab) (m : Nat) (c : Nat → Nat) : Prop := colOK a m c ∧ (∀ m' c', m' < m → ¬ colOK a m' c') ∧ ∀ c', colOK a m c' → lexLE (aN0 a) c c'
def texOK (a : Ab) (t : Nat → Nat) : Prop := (∀ i, i < aN0 a → aKi a i = 1 → t i < 4) ∧ ∀ i j, i < aN0 a → j < aN0 a → nbrP a i j → aAp a (t i) (t j) = 1
def isG (a : Ab) (i : Nat) : Bool := decide (aKi a i = 1)
def texC (a : Ab) (t : Nat → Nat) : Nat := sumB (isG a) (fun i => aPr a (t i)) (aN0 a)
/-- the textures by grounds, none elsewhere -/
def texG (a : Ab) (t : Nat → Nat) (i : Nat) : Nat := if aKi a i = 1 then t i else 0
def isTex (a : Ab) (t : Nat → Nat) : Prop := texOK a t ∧ ∀ t', texOK a t' → texC a t < texC a t' ∨ (texC a t = texC a t' ∧ lexLE (aN0 a) (texG a t) (texG a t'))
def noTex (a : Ab) : Prop := ∀ t, ¬ texOK a t
/-- the state is one that calls lead to -/
def WFs (a : Ab) (i : Nat) : Prop := aKi a i ≤ 2 ∧ 1 ≤ aWo a i ∧ aWo a i ≤ 9 ∧ 1 ≤ aNc a i ∧ aNc a i ≤ 8 ∧ (∀ k, k < aNc a i → aX a i k < 24 ∧ aY a i k < 24) ∧ (aKi a i = 1 → aNc a i = 2 ∧ aX a i 0 ≤ aX a i 1 ∧ aY a i 0 ≤ aY a i 1) ∧ (aKi a i = 2 → aNc a i = 1)
def WF (a : Ab) : Prop := aN0 a ≤ 12 ∧ aWn a ≤ 8 ∧ 1 ≤ aGap a ∧ aGap a ≤ 6 ∧ (∀ k, k < aWn a → aWX a k < 24 ∧ aWY a k < 24) ∧ (∀ i, i < aN0 a → WFs a i) ∧ (∀ i j, i < aN0 a → j < aN0 a → aMe a i j ≤ 1 ∧ aMe a i j = aMe a j i) ∧ (∀ s t, s < 4 → t < 4 → aAp a s t ≤ 1 ∧ aAp a s t = aAp a t s) ∧ (∀ s, s < 4 → aAp a s s = 0) ∧ (∀ t, t < 4 → aPr a t ≤ 99) ∧ ∀ x y, x < 24 → y < 24 → aUp a x y ≤ 1
/-- the reference's cells of one shape -/
def MIs (a : Ab) (σ : tk_S) (i : Nat) : Prop := σ.1 135 i = nI (aKi a i) ∧ σ.1 136 i = nI (aWo a i) ∧ σ.1 137 i = nI (aNc a i) ∧ (∀ k, k < aNc a i → σ.1 138 (8 * i + k) = nI (aX a i k) ∧ σ.1 139 (8 * i + k) = nI (aY a i k)) ∧ ∀ x y, x < 24 → y < 24 → σ.1 140 (576 * i + 24 * y + x) = b2i (pB (pinP a i x y))
def MI (a : Ab) (σ : tk_S) : Prop := σ.1 132 0 = nI (aN0 a) ∧ σ.1 132 1 = nI (aWn a) ∧ σ.1 132 2 = nI (aGap a) ∧ (∀ k, k < aWn a → σ.1 133 k = nI (aWX a k) ∧ σ.1 134 k = nI (aWY a k)) ∧ (∀ i, i < aN0 a → MIs a σ i) ∧ (∀ i j, i < aN0 a → j < aN0 a → σ.1 141 (12 * i + j) = nI (aMe a i j)) ∧ (∀ s t, s < 4 → t < 4 → σ.1 142 (4 * s + t) = nI (aAp a s t)) ∧ (∀ t, t < 4 → σ.1 143 t = nI (aPr a t)) ∧ ∀ x y, x < 24 → y < 24 → σ.1 150 (24 * y + x) = nI (aUp a x y)
/-- the class' cells of one shape; its pins by rows -/
def XIs (a : Ab) (σ : tk_S) (i : Nat) : Prop := σ.1 (72 + 5 * i) 0 = nI (aKi a i) ∧ σ.1 (72 + 5 * i) 1 = nI (aWo a i) ∧ σ.1 (72 + 5 * i) 2 = nI (aNc a i) ∧ (∀ k, k < aNc a i → σ.1 (72 + 5 * i + 1) k = nI (aX a i k) ∧ σ.1 (72 + 5 * i + 2) k = nI (aY a i k)) ∧ ∀ x y, y < 24 → bt (σ.1 (72 + 5 * i + 4) y) x = pB (pinP a i x y)
def XI (a : Ab) (σ : tk_S) : Prop := σ.1 0 1 = nI (aN0 a) ∧ σ.1 0 4 = nI (aWn a) ∧ σ.1 0 5 = nI (aGap a) ∧ (∀ k, k < aWn a → σ.1 2 k = nI (aWX a k) ∧ σ.1 3 k = nI (aWY a k)) ∧ (∀ i, i < aN0 a → XIs a σ i) ∧ (∀ i j, i < 12 → bt (σ.1 4 i) j = decide (i < aN0 a ∧ j < aN0 a ∧ aMe a i j = 1)) ∧ (∀ s t, s < 4 → bt (σ.1 31 s) t = decide (t < 4 ∧ aAp a s t = 1)) ∧ (∀ t, t < 4 → σ.1 32 t = nI (aPr a t)) ∧ (∀ i j, i < aN0 a → j < aN0 a → ∃ f, σ.1 (6 + i) j = nI f ∧ isFar a i j f) ∧ ∀ x y, y < 24 → bt (σ.1 53 y) x = decide (x < 24 ∧ aUp a x y = 1)
/-- the part of the state on which kept, sheets and textures rest -/
def core (a : Ab) : Ab := fun c i j => if c = 0 ∧ i = 1 then 0 else if 9 ≤ c then 0 else a c i j
/-- what the class remembers of its answers: kept, sheets, textures (their weight in the one long) -/
def texW (b : Ab) (t : Nat → Nat) : Nat := texC b t * 2 ^ 24 + sumB (isG b) (fun i => t i * 4 ^ (11 - i)) (aN0 b)
def XK (b : Ab) (σ : tk_S) : Prop := (σ.1 0 14 = 0 ∨ (σ.1 0 14 = 1 ∧ ∃ S, isKept b S ∧ σ.1 23 1 = nI S)) ∧ (σ.1 0 15 = 0 ∨ (σ.1 0 15 = 1 ∧ ∃ m c, isLay b m c ∧ σ.1 25 4 = nI m ∧ ∀ i, i < aN0 b → σ.1 29 i = nI (c i))) ∧ (σ.1 0 16 = 0 ∨ (σ.1 0 16 = 1 ∧ (∀ i, bt (σ.1 30 7) i = decide (i < aN0 b ∧ aKi b i = 1)) ∧ ((noTex b ∧ σ.2 = 1152921504606846976) ∨ ∃ t, isTex b t ∧ σ.2 = lN (texW b t))))
/-- the pins that are up, by steps to the eight beside, from one to another -/
def upP (u : Nat → Nat → Nat) (x y : Nat) : Prop := x < 24 ∧ y < 24 ∧ u x y = 1
def besideP (x y x' y' : Nat) : Prop := x ≤ x' + 1 ∧ x' ≤ x + 1 ∧ y ≤ y' + 1 ∧ y' ≤ y + 1
/-- within n steps -/
def walkP (u : Nat → Nat → Nat) (x y : Nat) : Nat → Nat → Nat → Prop
  | 0, x', y' => upP u x y ∧ x' = x ∧ y' = y
  | n + 1, x', y' => ∃ x1 y1, walkP u x y n x1 y1 ∧ besideP x1 y1 x' y' ∧ upP u x' y'
def joinP (u : Nat → Nat → Nat) (x y x' y' : Nat) : Prop := ∃ n, walkP u x y n x' y'
/-- x, y is the first pin of its thing, row by row -/
def firstP (u : Nat → Nat → Nat) (p : Nat) : Prop := upP u (p % 24) (p / 24) ∧ ∀ q, q < p → ¬ joinP u (q % 24) (q / 24) (p % 24) (p / 24)
/-- the i-th thing's first pin is p -/
def thingP (u : Nat → Nat → Nat) (i p : Nat) : Prop := p < 576 ∧ firstP u p ∧ cnt (fun q => pB (firstP u q)) p = i
noncomputable def thingN (u : Nat → Nat → Nat) : Nat := cnt (fun q => pB (firstP u q)) 576
/-- pin q belongs to the thing whose first pin is p -/
def ofT (u : Nat → Nat → Nat) (p q : Nat) : Prop := joinP u (p % 24) (p / 24) (q % 24) (q / 24)
noncomputable def besN (u : Nat → Nat → Nat) (q : Nat) : Nat := cnt (fun r => pB (r ≠ q ∧ besideP (q % 24) (q / 24) (r % 24) (r / 24) ∧ upP u (r % 24) (r / 24))) 576
/-- a number of the thing p: how many, the box, the ends -/
def isFact (u : Nat → Nat → Nat) (p w v : Nat) : Prop :=
  (w = 0 ∧ v = cnt (fun q => pB (ofT u p q)) 576) ∨
  (w = 1 ∧ (∃ q, ofT u p q ∧ q % 24 = v) ∧ ∀ q, ofT u p q → v ≤ q % 24) ∨
  (w = 2 ∧ (∃ q, ofT u p q ∧ q / 24 = v) ∧ ∀ q, ofT u p q → v ≤ q / 24) ∨
  (w = 3 ∧ (∃ q, ofT u p q ∧ q % 24 = v) ∧ ∀ q, ofT u p q → q % 24 ≤ v) ∨
  (w = 4 ∧ (∃ q, ofT u p q ∧ q / 24 = v) ∧ ∀ q, ofT u p q → q / 24 ≤ v) ∨
  (w = 5 ∧ v = cnt (fun q => pB (ofT u p q ∧ besN u q = 1)) 576)
/-- what the class' finger holds -/
def XF (u : Nat → Nat → Nat) (σ : tk_S) : Prop := thingN u ≤ 12 ∧ σ.1 54 3 = nI (thingN u) ∧ ∀ i p, thingP u i p → ∀ w, w < 6 → ∃ v, σ.1 (60 + i) w = nI v ∧ isFact u p w v
/-- what differs of two states lies within P -/
def Fr (P : Nat → Nat → Prop) (σ σ1 : tk_S) : Prop := ∀ k j, ¬ P k j → σ1.1 k j = σ.1 k j
theorem Fr.rf {P : Nat → Nat → Prop} (σ : tk_S) : Fr P σ σ := fun _ _ _ => rfl
theorem Fr.tr {P : Nat → Nat → Prop} {σ σ1 σ2 : tk_S} (h : Fr P σ σ1) (h2 : Fr P σ1 σ2) : Fr P σ σ2 := fun k j q => (h2 k j q).trans (h k j q)
theorem Fr.wk {P P' : Nat → Nat → Prop} {σ σ1 : tk_S} (h : Fr P σ σ1) (hp : ∀ k j, P k j → P' k j) : Fr P' σ σ1 := fun k j q => h k j (fun z => q (hp k j z))
theorem Fr.up {P : Nat → Nat → Prop} (σ : tk_S) {K J : Nat} (x : Int32) (h : P K J) : Fr P σ (tk_up σ K J x) := by
  intro k j q
  unfold tk_up upd
  by_cases e : k = K
  · by_cases e2 : j = J
    · subst e; subst e2; exact absurd h q
    · simp [e, e2]
  · simp [e]
theorem Fr.row {P : Nat → Nat → Prop} (σ : tk_S) {K : Nat} (f : Nat → Int32) (h : ∀ j, P K j) : Fr P σ (tk_row σ K f) := by
  intro k j q
  by_cases e : k = K
  · subst e; exact absurd (h j) q
  · rw [tk_row_o _ _ e]
theorem Fr.fill {P : Nat → Nat → Prop} (σ : tk_S) {K n : Nat} (g : Nat → Int32) (h : ∀ j, P K j) : Fr P σ (tk_fill σ K n g) := Fr.row σ _ h
theorem tk_up_at (σ : tk_S) (K J : Nat) (x : Int32) (k j : Nat) : (tk_up σ K J x).1 k j = if k = K ∧ j = J then x else σ.1 k j := by
  unfold tk_up upd
  by_cases e : k = K <;> by_cases e2 : j = J <;> simp [e, e2]
/-- the reference's cells alone, the class' cells alone -/
def frM : Nat → Nat → Prop := fun k _ => 132 ≤ k
def frX : Nat → Nat → Prop := fun k _ => k < 132
theorem MI.fr {a : Ab} {σ σ1 : tk_S} (h : MI a σ) (hf : Fr frX σ σ1) : MI a σ1 := by
  have e : ∀ k j, 132 ≤ k → σ1.1 k j = σ.1 k j := fun k j hk => hf k j (fun q => by have : k < 132 := q; omega)
  obtain ⟨h0, h1, h2, h3, h4, h5, h6, h7, h8⟩ := h
  refine ⟨by rw [e _ _ (by omega)]; exact h0, by rw [e _ _ (by omega)]; exact h1, by rw [e _ _ (by omega)]; exact h2, fun k hk => ?_, fun i hi => ?_, fun i j hi hj => ?_, fun s t hs ht => ?_, fun t ht => ?_, fun x y hx hy => ?_⟩
  · rw [e _ _ (by omega), e _ _ (by omega)]; exact h3 k hk
  · obtain ⟨g0, g1, g2, g3, g4⟩ := h4 i hi
    refine ⟨by rw [e _ _ (by omega)]; exact g0, by rw [e _ _ (by omega)]; exact g1, by rw [e _ _ (by omega)]; exact g2, fun k hk => ?_, fun x y hx hy => ?_⟩
    · rw [e _ _ (by omega), e _ _ (by omega)]; exact g3 k hk
    · rw [e _ _ (by omega)]; exact g4 x y hx hy
  · rw [e _ _ (by omega)]; exact h5 i j hi hj
  · rw [e _ _ (by omega)]; exact h6 s t hs ht
  · rw [e _ _ (by omega)]; exact h7 t ht
  · rw [e _ _ (by omega)]; exact h8 x y hx hy
def Rel (σ : tk_S) : Prop := ∃ a, WF a ∧ XI a σ ∧ XK (core a) σ ∧ XF (a 11) σ ∧ MI a σ
/-- cells that XI doesn't read -/
def frS : Nat → Nat → Prop := fun k j => (k = 0 ∧ 14 ≤ j) ∨ (18 ≤ k ∧ k ≤ 30) ∨ (33 ≤ k ∧ k ≤ 52) ∨ (54 ≤ k ∧ k ≤ 71) ∨ 132 ≤ k
theorem frM_S : ∀ k j, frM k j → frS k j := fun k j h => by have : 132 ≤ k := h; unfold frS; omega
theorem XI.fr {a : Ab} {σ σ1 : tk_S} (hw : WF a) (h : XI a σ) (hf : Fr frS σ σ1) : XI a σ1 := by
  have e : ∀ k j, ¬ ((k = 0 ∧ 14 ≤ j) ∨ (18 ≤ k ∧ k ≤ 30) ∨ (33 ≤ k ∧ k ≤ 52) ∨ (54 ≤ k ∧ k ≤ 71) ∨ 132 ≤ k) → σ1.1 k j = σ.1 k j := fun k j hk => hf k j hk
  have hN : aN0 a ≤ 12 := hw.1
  obtain ⟨h0, h1, h2, h3, h4, h5, h6, h7, h8, h9⟩ := h
  refine ⟨by rw [e _ _ (by omega)]; exact h0, by rw [e _ _ (by omega)]; exact h1, by rw [e _ _ (by omega)]; exact h2, fun k hk => ?_, fun i hi => ?_, fun i j hi => ?_, fun s t hs => ?_, fun t ht => ?_, fun i j hi hj => ?_, fun x y hy => ?_⟩
  · rw [e _ _ (by omega), e _ _ (by omega)]; exact h3 k hk
  · obtain ⟨g0, g1, g2, g3, g4⟩ := h4 i hi
    refine ⟨by rw [e _ _ (by omega)]; exact g0, by rw [e _ _ (by omega)]; exact g1, by rw [e _ _ (by omega)]; exact g2, fun k hk => ?_, fun x y hy => ?_⟩
    · rw [e _ _ (by omega), e _ _ (by omega)]; exact g3 k hk
    · rw [e _ _ (by omega)]; exact g4 x y hy
  · rw [e _ _ (by omega)]; exact h5 i j hi
  · rw [e _ _ (by omega)]; exact h6 s t hs
  · rw [e _ _ (by omega)]; exact h7 t ht
  · rw [e _ _ (by omega)]; exact h8 i j hi hj
  · rw [e _ _ (by omega)]; exact h9 x y hy
theorem XK.fr {b : Ab} {σ σ1 : tk_S} (h : XK b σ) (hf : ∀ k j, (k = 0 ∧ 14 ≤ j) ∨ (23 ≤ k ∧ k ≤ 30) → σ1.1 k j = σ.1 k j) (h2 : σ1.2 = σ.2) : XK b σ1 := by
  obtain ⟨g0, g1, g2⟩ := h
  refine ⟨?_, ?_, ?_⟩
  · rw [hf _ _ (by omega), hf _ _ (by omega)]; exact g0
  · rw [hf _ _ (by omega), hf _ _ (by omega)]
    rcases g1 with q | ⟨q, m, c, q1, q2, q3⟩
    · exact Or.inl q
    · exact Or.inr ⟨q, m, c, q1, q2, fun i hi => by rw [hf _ _ (by omega)]; exact q3 i hi⟩
  · rw [hf _ _ (by omega), hf _ _ (by omega), h2]; exact g2
theorem XF.fr {u : Nat → Nat → Nat} {σ σ1 : tk_S} (h : XF u σ) (hf : ∀ k j, 54 ≤ k ∧ k ≤ 71 → σ1.1 k j = σ.1 k j) : XF u σ1 := by
  obtain ⟨g0, g1, g2⟩ := h
  refine ⟨g0, by rw [hf _ _ (by omega)]; exact g1, fun i p hp w hw => ?_⟩
  have hi : i < 12 := by
    have h1 : i < thingN u := by
      obtain ⟨q0, q1, q2⟩ := hp
      rw [← q2]
      exact cnt_lt q0 (pB_t.mpr q1)
    omega
  rw [hf _ _ (by omega)]
  exact g2 i p hp w hw
theorem XK.no {b : Ab} {σ : tk_S} (h0 : σ.1 0 14 = 0) (h1 : σ.1 0 15 = 0) (h2 : σ.1 0 16 = 0) : XK b σ := ⟨Or.inl h0, Or.inl h1, Or.inl h2⟩
