/-! the whole system as numbered cells: what a cell is stands in tk_tab; a state is a number for each place of each cell, and the one long -/
abbrev tk_S : Type := (Nat → Nat → Int32) × Int64
abbrev tk_V : Type := Int32 ⊕ (Int64 ⊕ Nat)
abbrev aI (x : Int32) : tk_V := .inl x
abbrev aL (x : Int64) : tk_V := .inr (.inl x)
abbrev aN (k : Nat) : tk_V := .inr (.inr k)
def toV (ad : Nat → Nat) (v : tk_V) : Value := match v with
  | .inl x => .int x
  | .inr (.inl y) => .long y
  | .inr (.inr k) => .ref (ad k)
/-- an object: its class' number, its fields (0: int, 1: the long, 2: the cell so far behind); an array: 0 int, 1 boolean, 2 shapes, 3 int rows; its length; its first child, the step -/
abbrev tk_D : Type := (Nat × List (Nat × Nat)) ⊕ (Nat × Nat × Nat × Nat)
def tk_tab : List tk_D := [
  .inl (7, [(2, 1), (0, 0), (2, 2), (2, 3), (0, 0), (0, 0), (2, 4), (2, 5), (2, 18), (2, 20), (2, 23), (2, 25), (2, 30), (2, 51), (0, 0), (0, 0), (0, 0), (2, 52), (2, 54)]), .inr (2, 12, 71, 5), .inr (0, 8, 0, 0), .inr (0, 8, 0, 0), .inr (0, 12, 0, 0), .inr (3, 12, 1, 1),
  .inr (0, 12, 0, 0), .inr (0, 12, 0, 0), .inr (0, 12, 0, 0), .inr (0, 12, 0, 0), .inr (0, 12, 0, 0), .inr (0, 12, 0, 0),
  .inr (0, 12, 0, 0), .inr (0, 12, 0, 0), .inr (0, 12, 0, 0), .inr (0, 12, 0, 0), .inr (0, 12, 0, 0), .inr (0, 12, 0, 0),
  .inl (2, [(2, 1)]), .inr (0, 24, 0, 0), .inl (4, [(2, 1), (2, 2)]), .inr (0, 8, 0, 0), .inr (0, 8, 0, 0), .inl (1, [(2, 1), (0, 0)]),
  .inr (0, 12, 0, 0), .inl (5, [(2, 1), (2, 2), (2, 3), (2, 4), (0, 0)]), .inr (0, 12, 0, 0), .inr (0, 12, 0, 0), .inr (0, 12, 0, 0), .inr (0, 12, 0, 0),
  .inl (6, [(2, 1), (2, 2), (2, 3), (2, 4), (2, 5), (2, 6), (2, 7), (0, 0), (1, 0)]), .inr (0, 4, 0, 0), .inr (0, 4, 0, 0), .inr (0, 12, 0, 0), .inr (0, 4, 0, 0), .inr (0, 16, 0, 0),
  .inr (0, 4, 0, 0), .inr (3, 13, 1, 1), .inr (0, 12, 0, 0), .inr (0, 12, 0, 0), .inr (0, 12, 0, 0), .inr (0, 12, 0, 0),
  .inr (0, 12, 0, 0), .inr (0, 12, 0, 0), .inr (0, 12, 0, 0), .inr (0, 12, 0, 0), .inr (0, 12, 0, 0), .inr (0, 12, 0, 0),
  .inr (0, 12, 0, 0), .inr (0, 12, 0, 0), .inr (0, 12, 0, 0), .inr (0, 12, 0, 0), .inl (2, [(2, 1)]), .inr (0, 24, 0, 0),
  .inl (0, [(2, 1), (2, 3), (2, 5), (0, 0)]), .inl (2, [(2, 1)]), .inr (0, 24, 0, 0), .inl (2, [(2, 1)]), .inr (0, 24, 0, 0), .inr (3, 12, 1, 1),
  .inr (0, 6, 0, 0), .inr (0, 6, 0, 0), .inr (0, 6, 0, 0), .inr (0, 6, 0, 0), .inr (0, 6, 0, 0), .inr (0, 6, 0, 0),
  .inr (0, 6, 0, 0), .inr (0, 6, 0, 0), .inr (0, 6, 0, 0), .inr (0, 6, 0, 0), .inr (0, 6, 0, 0), .inr (0, 6, 0, 0),
  .inl (3, [(0, 0), (0, 0), (0, 0), (2, 1), (2, 2), (2, 3)]), .inr (0, 8, 0, 0), .inr (0, 8, 0, 0), .inl (2, [(2, 1)]), .inr (0, 24, 0, 0), .inl (3, [(0, 0), (0, 0), (0, 0), (2, 1), (2, 2), (2, 3)]),
  .inr (0, 8, 0, 0), .inr (0, 8, 0, 0), .inl (2, [(2, 1)]), .inr (0, 24, 0, 0), .inl (3, [(0, 0), (0, 0), (0, 0), (2, 1), (2, 2), (2, 3)]), .inr (0, 8, 0, 0),
  .inr (0, 8, 0, 0), .inl (2, [(2, 1)]), .inr (0, 24, 0, 0), .inl (3, [(0, 0), (0, 0), (0, 0), (2, 1), (2, 2), (2, 3)]), .inr (0, 8, 0, 0), .inr (0, 8, 0, 0),
  .inl (2, [(2, 1)]), .inr (0, 24, 0, 0), .inl (3, [(0, 0), (0, 0), (0, 0), (2, 1), (2, 2), (2, 3)]), .inr (0, 8, 0, 0), .inr (0, 8, 0, 0), .inl (2, [(2, 1)]),
  .inr (0, 24, 0, 0), .inl (3, [(0, 0), (0, 0), (0, 0), (2, 1), (2, 2), (2, 3)]), .inr (0, 8, 0, 0), .inr (0, 8, 0, 0), .inl (2, [(2, 1)]), .inr (0, 24, 0, 0),
  .inl (3, [(0, 0), (0, 0), (0, 0), (2, 1), (2, 2), (2, 3)]), .inr (0, 8, 0, 0), .inr (0, 8, 0, 0), .inl (2, [(2, 1)]), .inr (0, 24, 0, 0), .inl (3, [(0, 0), (0, 0), (0, 0), (2, 1), (2, 2), (2, 3)]),
  .inr (0, 8, 0, 0), .inr (0, 8, 0, 0), .inl (2, [(2, 1)]), .inr (0, 24, 0, 0), .inl (3, [(0, 0), (0, 0), (0, 0), (2, 1), (2, 2), (2, 3)]), .inr (0, 8, 0, 0),
  .inr (0, 8, 0, 0), .inl (2, [(2, 1)]), .inr (0, 24, 0, 0), .inl (3, [(0, 0), (0, 0), (0, 0), (2, 1), (2, 2), (2, 3)]), .inr (0, 8, 0, 0), .inr (0, 8, 0, 0),
  .inl (2, [(2, 1)]), .inr (0, 24, 0, 0), .inl (3, [(0, 0), (0, 0), (0, 0), (2, 1), (2, 2), (2, 3)]), .inr (0, 8, 0, 0), .inr (0, 8, 0, 0), .inl (2, [(2, 1)]),
  .inr (0, 24, 0, 0), .inl (3, [(0, 0), (0, 0), (0, 0), (2, 1), (2, 2), (2, 3)]), .inr (0, 8, 0, 0), .inr (0, 8, 0, 0), .inl (2, [(2, 1)]), .inr (0, 24, 0, 0),
  .inl (8, [(0, 0), (0, 0), (0, 0), (2, 1), (2, 2), (2, 3), (2, 4), (2, 5), (2, 6), (2, 7), (2, 8), (2, 9), (2, 10), (2, 11), (2, 12), (2, 13), (2, 14), (2, 15), (2, 16), (2, 17), (0, 0), (0, 0), (2, 18), (2, 19), (2, 20), (0, 0)]), .inr (0, 8, 0, 0), .inr (0, 8, 0, 0), .inr (0, 12, 0, 0), .inr (0, 12, 0, 0), .inr (0, 12, 0, 0),
  .inr (0, 96, 0, 0), .inr (0, 96, 0, 0), .inr (1, 6912, 0, 0), .inr (1, 144, 0, 0), .inr (1, 16, 0, 0), .inr (0, 4, 0, 0),
  .inr (0, 12, 0, 0), .inr (0, 12, 0, 0), .inr (0, 12, 0, 0), .inr (0, 12, 0, 0), .inr (0, 12, 0, 0), .inr (0, 12, 0, 0),
  .inr (1, 576, 0, 0), .inr (0, 576, 0, 0), .inr (0, 576, 0, 0)]
def tk_sh (k : Nat) : tk_D := (tk_tab[k]?).getD (.inr (9, 0, 0, 0))
abbrev tk_ia (n : Nat) : tk_D := .inr (0, n, 0, 0)
abbrev tk_za (n : Nat) : tk_D := .inr (1, n, 0, 0)
abbrev tk_shape : tk_D := .inl (3, [(0, 0), (0, 0), (0, 0), (2, 1), (2, 2), (2, 3)])
abbrev tk_pins : tk_D := .inl (2, [(2, 1)])
theorem tk_big {k : Nat} (h : 153 ≤ k) : tk_sh k = .inr (9, 0, 0, 0) := by
  unfold tk_sh
  rw [List.getElem?_eq_none (by show 153 ≤ k; exact h)]
  rfl
theorem tk_lt {k : Nat} {a : tk_D} (h : tk_sh k = a) (ha : a ≠ .inr (9, 0, 0, 0)) : k < 153 := by
  rcases Nat.lt_or_ge k 153 with q | q
  · exact q
  · exact absurd (h.symm.trans (tk_big q)) ha
theorem tk_lto {k ci : Nat} {fs : List (Nat × Nat)} (h : tk_sh k = .inl (ci, fs)) : k < 153 := tk_lt h (fun q => by cases q)
theorem tk_lti {k n : Nat} (h : tk_sh k = tk_ia n) : k < 153 := tk_lt h (fun q => by cases q)
theorem tk_ltz {k n : Nat} (h : tk_sh k = tk_za n) : k < 153 := tk_lt h (fun q => by cases q)
theorem tk_p1 {k : Nat} (h : tk_sh k = tk_pins) : tk_sh (k + 1) = tk_ia 24 := by
  have : ¬ tk_sh k = tk_pins ∨ tk_sh (k + 1) = tk_ia 24 := co_dec (N := 153) (P := fun k => ¬ tk_sh k = tk_pins ∨ tk_sh (k + 1) = tk_ia 24) (by decide +kernel) (tk_lto h)
  exact this.resolve_left (fun q => q h)
theorem tk_s1 {k : Nat} (h : tk_sh k = tk_shape) : tk_sh (k + 1) = tk_ia 8 := by
  have : ¬ tk_sh k = tk_shape ∨ tk_sh (k + 1) = tk_ia 8 := co_dec (N := 153) (P := fun k => ¬ tk_sh k = tk_shape ∨ tk_sh (k + 1) = tk_ia 8) (by decide +kernel) (tk_lto h)
  exact this.resolve_left (fun q => q h)
theorem tk_s2 {k : Nat} (h : tk_sh k = tk_shape) : tk_sh (k + 2) = tk_ia 8 := by
  have : ¬ tk_sh k = tk_shape ∨ tk_sh (k + 2) = tk_ia 8 := co_dec (N := 153) (P := fun k => ¬ tk_sh k = tk_shape ∨ tk_sh (k + 2) = tk_ia 8) (by decide +kernel) (tk_lto h)
  exact this.resolve_left (fun q => q h)
theorem tk_s3 {k : Nat} (h : tk_sh k = tk_shape) : tk_sh (k + 3) = tk_pins := by
  have : ¬ tk_sh k = tk_shape ∨ tk_sh (k + 3) = tk_pins := co_dec (N := 153) (P := fun k => ¬ tk_sh k = tk_shape ∨ tk_sh (k + 3) = tk_pins) (by decide +kernel) (tk_lto h)
  exact this.resolve_left (fun q => q h)
theorem tk_inlt {x : Int32} {n : Nat} (h : vp_in x n) : x.toNatClampNeg < n := Nat.not_le.mp fun q => h (Or.inr q)
theorem tk_r1 {x : Int32} (h : vp_in x 12) : tk_sh (1 + 71 + 5 * x.toNatClampNeg) = tk_shape := by
  have : ∀ i, i < 12 → tk_sh (1 + 71 + 5 * i) = tk_shape := by decide +kernel
  exact this _ (tk_inlt h)
theorem tk_r37 {x : Int32} (h : vp_in x 13) : tk_sh (37 + 1 + 1 * x.toNatClampNeg) = tk_ia 12 := by
  have : ∀ i, i < 13 → tk_sh (37 + 1 + 1 * i) = tk_ia 12 := by decide +kernel
  exact this _ (tk_inlt h)
theorem tk_r59 {x : Int32} (h : vp_in x 12) : tk_sh (59 + 1 + 1 * x.toNatClampNeg) = tk_ia 6 := by
  have : ∀ i, i < 12 → tk_sh (59 + 1 + 1 * i) = tk_ia 6 := by decide +kernel
  exact this _ (tk_inlt h)
theorem tk_r5 {x : Int32} (h : vp_in x 12) : tk_sh (5 + 1 + 1 * x.toNatClampNeg) = tk_ia 12 := by
  have : ∀ i, i < 12 → tk_sh (5 + 1 + 1 * i) = tk_ia 12 := by decide +kernel
  exact this _ (tk_inlt h)
/-- an object's fields as the machine has them -/
def tk_fv (ad : Nat → Nat) (m : Nat → Int32) (g : Int64) (k : Nat) : Nat → List (Nat × Nat) → List Value
  | _, [] => []
  | j, a :: r => (match a.1 with
    | 0 => .int (m j)
    | 1 => .long g
    | _ => .ref (ad (k + a.2))) :: tk_fv ad m g k (j + 1) r
theorem tk_fv_len (ad : Nat → Nat) (m : Nat → Int32) (g : Int64) (k : Nat) : ∀ (j : Nat) (fs : List (Nat × Nat)), (tk_fv ad m g k j fs).length = fs.length
  | _, [] => rfl
  | j, a :: r => by show (tk_fv ad m g k (j + 1) r).length + 1 = r.length + 1; rw [tk_fv_len ad m g k (j + 1) r]
theorem tk_fv_same (ad : Nat → Nat) (m m' : Nat → Int32) (g : Int64) (k : Nat) : ∀ (j : Nat) (fs : List (Nat × Nat)), (∀ i, j ≤ i → m' i = m i) → tk_fv ad m' g k j fs = tk_fv ad m g k j fs
  | _, [], _ => rfl
  | j, a :: r, h => by
    unfold tk_fv
    rw [tk_fv_same ad m m' g k (j + 1) r (fun i hi => h i (by omega)), h j (Nat.le_refl j)]
theorem tk_fv_set (ad : Nat → Nat) (m : Nat → Int32) (g : Int64) (k : Nat) (x : Int32) : ∀ (j n : Nat) (fs : List (Nat × Nat)) (o : Nat), fs[n]? = some (0, o) → (tk_fv ad m g k j fs).set n (.int x) = tk_fv ad (upd m (j + n) x) g k j fs
  | _, _, [], _, h => by simp at h
  | j, 0, a :: r, o, h => by
    have ha : a = (0, o) := by simpa using h
    subst ha
    unfold tk_fv
    rw [tk_fv_same ad m (upd m (j + 0) x) g k (j + 1) r (fun i hi => by unfold upd; rw [if_neg (by omega)])]
    simp [upd]
  | j, n + 1, a :: r, o, h => by
    have h2 : r[n]? = some (0, o) := by simpa using h
    have ih := tk_fv_set ad m g k x (j + 1) n r o h2
    unfold tk_fv
    rw [List.set_cons_succ, ih, show j + 1 + n = j + (n + 1) by omega]
    have e : upd m (j + (n + 1)) x j = m j := by unfold upd; rw [if_neg (by omega)]
    rw [e]
def tk_e (ad : Nat → Nat) (cy : Nat → ClassId) (m : Nat → Int32) (g : Int64) (k : Nat) : va_E := match tk_sh k with
  | .inl (ci, fs) => .inr (ci, tk_fv ad m g k 0 fs)
  | .inr (0, n, _, _) => .inl (cy 0, n, .inl m)
  | .inr (1, n, _, _) => .inl (cy 1, n, .inl m)
  | .inr (t + 2, n, o, d) => .inl (cy (t + 2), n, .inr (.inr (.inr (.inr (fun j => some (ad (k + o + d * j)))))))
def tk_w (ad : Nat → Nat) (cy : Nat → ClassId) (σ : tk_S) : va_W := (List.range 153).map (fun k => (ad k, tk_e ad cy (σ.1 k) σ.2 k))
theorem tk_w_len (ad : Nat → Nat) (cy : Nat → ClassId) (σ : tk_S) : (tk_w ad cy σ).length = 153 := by unfold tk_w; rw [List.length_map, List.length_range]
theorem tk_w_at {ad : Nat → Nat} {cy : Nat → ClassId} {σ : tk_S} {k : Nat} (hk : k < 153) : (tk_w ad cy σ)[k]? = some (ad k, tk_e ad cy (σ.1 k) σ.2 k) := by
  unfold tk_w
  rw [List.getElem?_map, List.getElem?_range hk]
  rfl
theorem tk_w_set {ad : Nat → Nat} {cy : Nat → ClassId} {σ σ' : tk_S} {k : Nat} {e : va_E} (hk : k < 153) (he : tk_e ad cy (σ'.1 k) σ'.2 k = e) (ho : ∀ j, j ≠ k → tk_e ad cy (σ'.1 j) σ'.2 j = tk_e ad cy (σ.1 j) σ.2 j) : (tk_w ad cy σ).set k (ad k, e) = tk_w ad cy σ' := by
  apply List.ext_getElem?
  intro i
  by_cases hi : i < 153
  · rw [tk_w_at hi, List.getElem?_set]
    by_cases hik : k = i
    · subst hik
      rw [if_pos rfl, if_pos (by rw [tk_w_len]; exact hk), he]
    · rw [if_neg hik, tk_w_at hi, ho i (fun h => hik h.symm)]
  · rw [List.getElem?_eq_none (by rw [List.length_set, tk_w_len]; omega), List.getElem?_eq_none (by rw [tk_w_len]; omega)]
theorem tk_D_any {ad : Nat → Nat} {cy : Nat → ClassId} {σ σ' : tk_S} {A : Nat → Prop} (h : va_D A (tk_w ad cy σ)) : va_D A (tk_w ad cy σ') := by
  have key : ∀ (k : Nat) (q : Nat × va_E), (tk_w ad cy σ')[k]? = some q → ∃ q0, (tk_w ad cy σ)[k]? = some q0 ∧ q0.1 = q.1 := by
    intro k q hq
    by_cases hk : k < 153
    · rw [tk_w_at hk] at hq
      cases hq
      exact ⟨_, tk_w_at hk, rfl⟩
    · rw [List.getElem?_eq_none (by rw [tk_w_len]; omega)] at hq
      cases hq
  refine ⟨fun i j x y hi hj hxy => ?_, fun k q hk => ?_⟩
  · obtain ⟨p0, a1, a2⟩ := key i x hi
    obtain ⟨q0, b1, b2⟩ := key j y hj
    exact h.1 i j p0 q0 a1 b1 (by rw [a2, b2, hxy])
  · obtain ⟨q0, a1, a2⟩ := key k q hk
    rw [← a2]
    exact h.2 k q0 a1
/-- one place of one cell is written -/
def tk_up (σ : tk_S) (k j : Nat) (x : Int32) : tk_S := (fun a => if a = k then upd (σ.1 a) j x else σ.1 a, σ.2)
theorem tk_up_1 (σ : tk_S) (k j : Nat) (x : Int32) : (tk_up σ k j x).1 k = upd (σ.1 k) j x := by simp [tk_up]
theorem tk_up_o (σ : tk_S) {k a : Nat} (j : Nat) (x : Int32) (h : a ≠ k) : (tk_up σ k j x).1 a = σ.1 a := by simp [tk_up, h]
theorem tk_eo {ad : Nat → Nat} {cy : Nat → ClassId} {σ : tk_S} {k ci : Nat} {fs : List (Nat × Nat)} (h : tk_sh k = .inl (ci, fs)) : (tk_w ad cy σ)[k]? = some (ad k, .inr (ci, tk_fv ad (σ.1 k) σ.2 k 0 fs)) := by
  rw [tk_w_at (tk_lto h)]
  simp only [tk_e, h]
theorem tk_ei {ad : Nat → Nat} {cy : Nat → ClassId} {σ : tk_S} {k n : Nat} (h : tk_sh k = tk_ia n) : (tk_w ad cy σ)[k]? = some (ad k, .inl (cy 0, n, .inl (σ.1 k))) := by
  rw [tk_w_at (tk_lti h)]
  simp only [tk_e, h]
theorem tk_ez {ad : Nat → Nat} {cy : Nat → ClassId} {σ : tk_S} {k n : Nat} (h : tk_sh k = tk_za n) : (tk_w ad cy σ)[k]? = some (ad k, .inl (cy 1, n, .inl (σ.1 k))) := by
  rw [tk_w_at (tk_ltz h)]
  simp only [tk_e, h]
theorem tk_eq {ad : Nat → Nat} {cy : Nat → ClassId} {σ : tk_S} {k t n o d : Nat} (h : tk_sh k = .inr (t + 2, n, o, d)) (ht : t + 2 ≠ 9) : (tk_w ad cy σ)[k]? = some (ad k, .inl (cy (t + 2), n, .inr (.inr (.inr (.inr (fun j => some (ad (k + o + d * j)))))))) := by
  rw [tk_w_at (tk_lt h (fun q => by injection q with q; injection q with q1 q2; exact ht q1))]
  simp only [tk_e, h]
def tk_ty (cy : Nat → ClassId) : List (ClassId × FieldType) := [(cy 0, .int), (cy 1, .boolean), (cy 2, .object "TouchSheet$Shape"), (cy 3, .array .int)]
def tk_nl : List Cond := [.methodLinkNest "TouchSheet" 36 ⟨"TouchSheet$Pins", "<init>", "()V"⟩ "TouchSheet", .methodLinkNest "TouchSheet" 43 ⟨"TouchSheet$Simpler", "<init>", "()V"⟩ "TouchSheet", .methodLinkNest "TouchSheet" 50 ⟨"TouchSheet$Keeper", "<init>", "()V"⟩ "TouchSheet", .methodLinkNest "TouchSheet" 57 ⟨"TouchSheet$Stacker", "<init>", "()V"⟩ "TouchSheet", .methodLinkNest "TouchSheet" 77 ⟨"TouchSheet$Finger", "<init>", "()V"⟩ "TouchSheet", .methodLinkNest "TouchSheet$Finger" 11 ⟨"TouchSheet$Pins", "<init>", "()V"⟩ "TouchSheet", .methodLinkNest "TouchSheet" 82 ⟨"TouchSheet$Shape", "<init>", "()V"⟩ "TouchSheet", .methodLinkNest "TouchSheet$Shape" 20 ⟨"TouchSheet$Pins", "<init>", "()V"⟩ "TouchSheet", .methodLinkNest "TouchSheet$Pins" 15 ⟨"TouchSheet", "isPin", "(II)Z"⟩ "TouchSheet", .methodLinkNest "TouchSheet$Pins" 19 ⟨"TouchSheet", "has", "(II)Z"⟩ "TouchSheet", .methodLinkNest "TouchSheet$Shape" 35 ⟨"TouchSheet", "has", "(II)Z"⟩ "TouchSheet", .methodLinkNest "TouchSheet$Keeper" 21 ⟨"TouchSheet", "heaviest", "(II[I[I)I"⟩ "TouchSheet", .methodLinkNest "TouchSheet$Stacker" 24 ⟨"TouchSheet", "heaviest", "(II[I[I)I"⟩ "TouchSheet", .methodLinkNest "TouchSheet$Weaver" 52 ⟨"TouchSheet", "has", "(II)Z"⟩ "TouchSheet"]
def tk_nest (U : State) : Prop := ∀ w ∈ tk_nl, va_Nw w U
theorem tk_nl_on : ∀ w ∈ tk_nl, w.onTables = true := by decide +kernel
theorem tk_nest.same {u U : State} (h : u.vm = U.vm) (hn : tk_nest u) : tk_nest U := fun w hw => va_Nw.same (tk_nl_on w hw) h (hn w hw)
theorem tk_nest.warm {s U : State} (hW : s.WarmedH U.vm) (hn : tk_nest s) : tk_nest U := by
  intro w hw
  have h := hn w hw
  unfold tk_nl at hw
  simp only [List.mem_cons, List.not_mem_nil, or_false] at hw
  rcases hw with rfl | rfl | rfl | rfl | rfl | rfl | rfl | rfl | rfl | rfl | rfl | rfl | rfl | rfl <;> exact va_Nw.warmM hW h
def tk_P (D : va_G) (cy : Nat → ClassId) (ad : Nat → Nat) (base : Nat) (σ : tk_S) (U : State) : Prop := va_K D vwCl (tk_ty cy) U ∧ va_P D vwCl (tk_w ad cy σ) U.heap ∧ va_D (fun q => base ≤ q) (tk_w ad cy σ) ∧ base ≤ U.heap.size ∧ tk_nest U
def tk_Q (D : va_G) (cy : Nat → ClassId) (ad : Nat → Nat) (base : Nat) (Q : Option tk_V → tk_S → Prop) : Array Value → State → Outcome → State → Prop := fun _ st oc t => (∃ (r : Option tk_V) (σ : tk_S), oc = .returned (r.map (toV ad)) ∧ Q r σ ∧ va_P D vwCl (tk_w ad cy σ) t.heap) ∧ va_F (fun q => base ≤ q) st t
def tk_rm (d : Nat) : Room := { frames := d, cells := 0, slots := 0, locals := 64 * d }
def tk_Pc (D : va_G) (cy : Nat → ClassId) (ad : Nat → Nat) (base : Nat) (as : List tk_V) (σ : tk_S) : Array Value → State → Prop := fun v U => v = (as.map (toV ad)).toArray ∧ tk_P D cy ad base σ U
/-- what a call promises: with these arguments in this state it returns, with Q -/
def tk_C (y : MethodName) (cc : ByteArray) (nL : Nat) (ret : Option FieldType) (d : Nat) (as : List tk_V) (σ : tk_S) (Q : Option tk_V → tk_S → Prop) : Prop :=
  ∀ (l : Launch) (D : va_G) (cy : Nat → ClassId) (ad : Nat → Nat) (base : Nat), Met l y (Cond.code y cc nL ret :: wsL_law) (tk_rm d) (tk_Pc D cy ad base as σ) (tk_Q D cy ad base Q) 0 0 (fun q => base ≤ q)
def tk_i (Q : Int32 → tk_S → Prop) : Option tk_V → tk_S → Prop := fun r σ => ∃ x, r = some (aI x) ∧ Q x σ
def tk_l (Q : Int64 → tk_S → Prop) : Option tk_V → tk_S → Prop := fun r σ => ∃ x, r = some (aL x) ∧ Q x σ
def tk_v (Q : tk_S → Prop) : Option tk_V → tk_S → Prop := fun r σ => r = none ∧ Q σ
def tk_X (own : String) (cc : ByteArray) (nL : Nat) (ret : Option FieldType) (p : Program) (s : State) (m : MethodId) (args : Array Value) (meth : Method) (c : Code) : Prop :=
  p.tables.exec = Jvm.exec ∧ c.code = cc ∧ c.maxLocals = nL ∧ s.vm.findClass own = some m.cls ∧ (∀ w ∈ wsL_law, w.before args s = true) ∧ meth.sig.returnType = ret ∧ meth.locks = false
def tk_W (D : va_G) (cy : Nat → ClassId) (ad : Nat → Nat) (base : Nat) (σ : tk_S) (s : State) (H : Heap) (locs : List Loc) : Prop :=
  va_K D vwCl (tk_ty cy) s ∧ va_P D vwCl (tk_w ad cy σ) H ∧ va_D (fun q => base ≤ q) (tk_w ad cy σ) ∧ va_S (fun q => base ≤ q) s.heap H locs ∧ base ≤ s.heap.size ∧ tk_nest s
def tk_lv (ad : Nat → Nat) (vals : List (Nat × tk_V)) : List (Nat × Value) := vals.map (fun q => (q.1, toV ad q.2))
/-- the machine inside a method, at pc with these locals, an empty stack, in this state, comes to the method's end, with Q -/
def tk_G (own : String) (cc : ByteArray) (nL : Nat) (ret : Option FieldType) (d pc : Nat) (vals : List (Nat × tk_V)) (σ : tk_S) (Q : Option tk_V → tk_S → Prop) : Prop :=
  ∀ (p : Program) (l : Launch) (e : Env) (s : State) (m : MethodId) (args : Array Value) (below : List Frame) (meth : Method) (c : Code) (D : va_G) (cy : Nat → ClassId) (ad : Nat → Nat) (base : Nat) (H : Heap) (locs : List Loc) (ls : Array Slot),
    tk_X own cc nL ret p s m args meth c → tk_W D cy ad base σ s H locs → lv_has ls nL (tk_lv ad vals) → W p l e (tk_rm d) s m args below meth c H locs 0 0 (MQ below (tk_Q D cy ad base Q) args s 0 0 (fun q => base ≤ q)) (F0 m pc ls [])
theorem tk_entry {y : MethodName} {own : String} {cc : ByteArray} {nL : Nat} {ret : Option FieldType} {d : Nat} {as : List tk_V} {vals : List (Nat × tk_V)} {σ : tk_S} {Q : Option tk_V → tk_S → Prop} (hy : plainName y.cls = true) (ho : y.cls = own) (hn : ∀ ad : Nat → Nat, (lg_sl (as.map (toV ad))).length ≤ nL) (hv : ∀ ad : Nat → Nat, lv_args 0 (as.map (toV ad)) = tk_lv ad vals) (h : tk_G own cc nL ret d 0 vals σ Q) : tk_C y cc nL ret d as σ Q := by
  intro l D cy ad base
  refine Met.ofW (cc := cc) (maxL := nL) (ret := ret) hy rfl ?_
  intro p e s m args below meth c s₁ B hml hv0
  obtain ⟨rfl, hK, hP, hD, hbs, hN⟩ := hv0
  have hts := atoms_spec (ws := Cond.code y cc nL ret :: wsL_law) B.pre
  have hown : s.vm.findClass y.cls = some m.cls := findClass_of_methodNamed B.named
  have hl := lv_entry (as.map (toV ad)) (n := nL) (hn ad)
  rw [hv ad] at hl
  rw [lg_entry_eq]
  subst ho
  exact h p l e s m _ below meth c D cy ad base s.heap [] _ ⟨B.exec, B.bytes, hml, hown, fun w hw => hts w (List.mem_cons_of_mem _ hw), B.returns, B.notSynchronized⟩ ⟨hK, hP, hD, va_S.rf, hbs, hN⟩ hl
theorem tk_good : wsL_law.all goodWord = true := by decide +kernel
theorem tk_gin {y : MethodName} {cc : ByteArray} {nL : Nat} {ret : Option FieldType} (h : Cond.code y cc nL ret ∈ wsL_law) : GoodIn wsL_law (Cond.code y cc nL ret :: wsL_law) := by
  intro w hw
  have hm : w ∈ wsL_law := by
    rcases List.mem_cons.mp hw with rfl | q
    · exact h
    · exact q
  exact ⟨hm, good_of_word (List.all_eq_true.mp tk_good w hm)⟩
theorem tk_blind {D : va_G} {cy : Nat → ClassId} {ad : Nat → Nat} {base : Nat} {as : List tk_V} {σ : tk_S} : FrameBlind (tk_Pc D cy ad base as σ) := by
  intro a U g mk q
  obtain ⟨q0, qK, qP, qD, qb, qN⟩ := q
  exact ⟨q0, va_K.moved (u := U) (U := U.calling g mk a) (Vm.Alike.refl U.vm) qK, qP, qD, qb, tk_nest.same (u := U) (U := U.calling g mk a) rfl qN⟩
section TK
variable {p : Program} {l : Launch} {e : Env} {R : Room} {s : State} {m : MethodId} {args : Array Value} {below : List Frame} {meth : Method} {c : Code} {H : Heap} {locs : List Loc} {cells slots : Nat} {Z : State → Prop}
variable {cc : ByteArray} {pc : Nat} {ls : Array Slot} {rest st0 : List Value} {D : va_G} {cy : Nat → ClassId} {ad : Nat → Nat} {base : Nat} {σ : tk_S}
theorem tk_pre {as : List tk_V} (w : tk_W D cy ad base σ s H locs) (U : State) (hU : U.heap = H) (hW : s.WarmedH U.vm) : tk_Pc D cy ad base as σ (as.map (toV ad)).toArray U :=
  ⟨rfl, va_K.moved hW.alike w.1, by rw [hU]; exact w.2.1, w.2.2.1, by rw [hU]; exact Nat.le_trans w.2.2.2.2.1 w.2.2.2.1.1, tk_nest.warm hW w.2.2.2.2.2⟩
theorem tk_get (hx : p.tables.exec = Jvm.exec) (hb : c.code = cc) (hts : ∀ w ∈ wsL_law, w.before args s = true) {own : String} (hown : s.vm.findClass own = some m.cls) (w : tk_W D cy ad base σ s H locs) {k ci : Nat} {fs : List (Nat × Nat)} (hs : tk_sh k = .inl (ci, fs)) {Cn : String} {T : u_T} {N : Nat} (hc : vwCl[ci]? = some (Cn, T, N)) (hin : ∀ w ∈ u_ws Cn T N, w ∈ wsL_law) (j : Nat) (hj : j < N) {index : Nat} (hlink : Cond.fieldLink own index (T j).1 (T j).2.1 (T j).2.2.1 ∈ wsL_law) {v : Value} (hv : (tk_fv ad (σ.1 k) σ.2 k 0 fs)[j]? = some v) (hdg : decode cc pc = .ok (.getfield index, 3))
    (kk : W p l e R s m args below meth c H locs cells slots Z (F0 m (pc + 3) ls (v :: rest))) : W p l e R s m args below meth c H locs cells slots Z (F0 m pc ls (.ref (ad k) :: rest)) :=
  va_get hx hb hts hin hown w.1 w.2.1 k (tk_eo hs) hc j hj (hts _ hlink) (fun _ h => h) hv hdg kk
theorem tk_puti (hx : p.tables.exec = Jvm.exec) (hb : c.code = cc) (hts : ∀ w ∈ wsL_law, w.before args s = true) {own : String} (hown : s.vm.findClass own = some m.cls) (w : tk_W D cy ad base σ s H locs) {k ci : Nat} {fs : List (Nat × Nat)} (hs : tk_sh k = .inl (ci, fs)) {Cn : String} {T : u_T} {N : Nat} (hc : vwCl[ci]? = some (Cn, T, N)) (hin : ∀ w ∈ u_ws Cn T N, w ∈ wsL_law) (ty0 : Nat → FieldType) (hty : ∀ k, k < N → parseFieldDescriptor (T k).2.2.1 = some (ty0 k)) (hnm : ∀ a, a < N → ∀ b, b < N → a ≠ b → (T a).2.1 ≠ (T b).2.1) (j : Nat) (hj : j < N) {index : Nat} (hlink : Cond.fieldLink own index (T j).1 (T j).2.1 (T j).2.2.1 ∈ wsL_law) (hfin : (T j).2.2.2 = false) {o : Nat} (hf : fs[j]? = some (0, o)) {ty : FieldType} {x : Int32} (hd : parseFieldDescriptor (T j).2.2.1 = some ty) (hn : narrow ty (.int x) = .int x) (hfit : fits ty (.int x) = true) (hdg : decode cc pc = .ok (.putfield index, 3))
    (kk : ∀ (H1 : Heap) (locs1 : List Loc), tk_W D cy ad base (tk_up σ k j x) s H1 locs1 → W p l e R s m args below meth c H1 locs1 cells slots Z (F0 m (pc + 3) ls rest)) : W p l e R s m args below meth c H locs cells slots Z (F0 m pc ls (.int x :: .ref (ad k) :: rest)) := by
  refine va_put hx hb hts hin ty0 hty hnm hown w.1 w.2.1 w.2.2.1 w.2.2.2.1 k (tk_eo hs) hc j hj (hts _ hlink) (fun _ h => h) hfin hd hn hfit (by rw [tk_fv_len]; exact (List.getElem?_eq_some_iff.mp hf).1) hdg (fun H1 locs1 hP _ hS => kk H1 locs1 ⟨w.1, ?_, tk_D_any w.2.2.1, hS, w.2.2.2.2.1, w.2.2.2.2.2⟩)
  rw [tk_w_set (σ' := tk_up σ k j x) (tk_lto hs) (by
    simp only [tk_e, hs, tk_up_1]
    rw [tk_fv_set ad (σ.1 k) σ.2 k x 0 j fs o hf, Nat.zero_add]
    rfl) (fun a ha => by rw [tk_up_o σ j x ha]; rfl)] at hP
  exact hP
theorem tk_nolong : ∀ k, k < 153 → k ≠ 30 → (match tk_sh k with | .inl (_, fs) => fs.all (fun a => a.1 != 1) | .inr _ => true) = true := by decide +kernel
theorem tk_fv_nol (ad : Nat → Nat) (m : Nat → Int32) (g g' : Int64) (k : Nat) : ∀ (j : Nat) (fs : List (Nat × Nat)), fs.all (fun a => a.1 != 1) = true → tk_fv ad m g' k j fs = tk_fv ad m g k j fs
  | _, [], _ => rfl
  | j, a :: r, h => by
    rw [List.all_cons, Bool.and_eq_true] at h
    unfold tk_fv
    rw [tk_fv_nol ad m g g' k (j + 1) r h.2]
    obtain ⟨a1, a2⟩ := a
    match a1, h.1 with
    | 0, _ => rfl
    | 1, h1 => simp at h1
    | n + 2, _ => rfl
theorem tk_e_nol {ad : Nat → Nat} {cy : Nat → ClassId} {m : Nat → Int32} {g g' : Int64} {k : Nat} (h : k ≠ 30) : tk_e ad cy m g' k = tk_e ad cy m g k := by
  by_cases hk : k < 153
  · have h1 := tk_nolong k hk h
    unfold tk_e
    cases e : tk_sh k with
    | inl q =>
      obtain ⟨ci, fs⟩ := q
      rw [e] at h1
      simp only
      rw [tk_fv_nol ad m g g' k 0 fs h1]
    | inr q =>
      obtain ⟨t, n, o, d⟩ := q
      match t with
      | 0 => rfl
      | 1 => rfl
      | t + 2 => rfl
  · unfold tk_e
    rw [tk_big (Nat.not_lt.mp hk)]
theorem tk_putl (hx : p.tables.exec = Jvm.exec) (hb : c.code = cc) (hts : ∀ w ∈ wsL_law, w.before args s = true) {own : String} (hown : s.vm.findClass own = some m.cls) (w : tk_W D cy ad base σ s H locs) {ci : Nat} {fs : List (Nat × Nat)} (hs : tk_sh 30 = .inl (ci, fs)) {Cn : String} {T : u_T} {N : Nat} (hc : vwCl[ci]? = some (Cn, T, N)) (hin : ∀ w ∈ u_ws Cn T N, w ∈ wsL_law) (ty0 : Nat → FieldType) (hty : ∀ k, k < N → parseFieldDescriptor (T k).2.2.1 = some (ty0 k)) (hnm : ∀ a, a < N → ∀ b, b < N → a ≠ b → (T a).2.1 ≠ (T b).2.1) (j : Nat) (hj : j < N) {index : Nat} (hlink : Cond.fieldLink own index (T j).1 (T j).2.1 (T j).2.2.1 ∈ wsL_law) (hfin : (T j).2.2.2 = false) (hd : parseFieldDescriptor (T j).2.2.1 = some .long) {x : Int64} (hset : ∀ (ad : Nat → Nat) (m : Nat → Int32) (g : Int64), (tk_fv ad m g 30 0 fs).set j (.long x) = tk_fv ad m x 30 0 fs) (hlen : j < fs.length) (hdg : decode cc pc = .ok (.putfield index, 3))
    (kk : ∀ (H1 : Heap) (locs1 : List Loc), tk_W D cy ad base (σ.1, x) s H1 locs1 → W p l e R s m args below meth c H1 locs1 cells slots Z (F0 m (pc + 3) ls rest)) : W p l e R s m args below meth c H locs cells slots Z (F0 m pc ls (.long x :: .ref (ad 30) :: rest)) := by
  refine va_put hx hb hts hin ty0 hty hnm hown w.1 w.2.1 w.2.2.1 w.2.2.2.1 30 (tk_eo hs) hc j hj (hts _ hlink) (fun _ h => h) hfin hd rfl rfl (by rw [tk_fv_len]; exact hlen) hdg (fun H1 locs1 hP _ hS => kk H1 locs1 ⟨w.1, ?_, tk_D_any w.2.2.1, hS, w.2.2.2.2.1, w.2.2.2.2.2⟩)
  rw [tk_w_set (σ := σ) (σ' := (σ.1, x)) (tk_lto hs) (by
    simp only [tk_e, hs]
    rw [hset]) (fun a ha => tk_e_nol ha)] at hP
  exact hP
theorem tk_iald (hx : p.tables.exec = Jvm.exec) (hb : c.code = cc) (w : tk_W D cy ad base σ s H locs) {k n : Nat} (hs : tk_sh k = tk_ia n) {i : Int32} (hin : vp_in i n) (hdg : decode cc pc = .ok (.iaload, 1))
    (kk : W p l e R s m args below meth c H locs cells slots Z (F0 m (pc + 1) ls (.int (σ.1 k i.toNatClampNeg) :: rest))) : W p l e R s m args below meth c H locs cells slots Z (F0 m pc ls (.int i :: .ref (ad k) :: rest)) :=
  va_iald hx hb w.1 w.2.1 k 0 (tk_ei hs) rfl hin hdg kk
theorem tk_zald (hx : p.tables.exec = Jvm.exec) (hb : c.code = cc) (w : tk_W D cy ad base σ s H locs) {k n : Nat} (hs : tk_sh k = tk_za n) {i : Int32} (hin : vp_in i n) (hdg : decode cc pc = .ok (.baload, 1))
    (kk : W p l e R s m args below meth c H locs cells slots Z (F0 m (pc + 1) ls (.int (σ.1 k i.toNatClampNeg) :: rest))) : W p l e R s m args below meth c H locs cells slots Z (F0 m pc ls (.int i :: .ref (ad k) :: rest)) :=
  va_zald hx hb w.1 w.2.1 k 1 (tk_ez hs) rfl hin hdg kk
theorem tk_aald (hx : p.tables.exec = Jvm.exec) (hb : c.code = cc) (w : tk_W D cy ad base σ s H locs) {k t n o d : Nat} (hs : tk_sh k = .inr (t + 2, n, o, d)) (h9 : t + 2 ≠ 9) {ty : FieldType} (ht : (tk_ty cy)[t + 2]? = some (cy (t + 2), ty)) (href : ty.isReference = true) {i : Int32} (hin : vp_in i n) (hdg : decode cc pc = .ok (.aaload, 1))
    (kk : W p l e R s m args below meth c H locs cells slots Z (F0 m (pc + 1) ls (.ref (ad (k + o + d * i.toNatClampNeg)) :: rest))) : W p l e R s m args below meth c H locs cells slots Z (F0 m pc ls (.int i :: .ref (ad k) :: rest)) := by
  have hlt : i.toNatClampNeg < n := tk_inlt hin
  exact W.aald (v := .ref (ad (k + o + d * i.toNatClampNeg))) (ty := ty) hx hb (w.2.1 k _ (tk_eq hs h9)) ((w.1.2 (t + 2) _ ht).1 n (fun j => va_rf (some (ad (k + o + d * j))))) href (fun q => by cases q) (by show ¬ (i < 0 ∨ (arrV _ _ _).slots.size ≤ _); rw [arrV_size]; exact hin) (by show (arrV _ _ _).slots[_]? = _; rw [arrV_read _ _ hlt]; rfl) rfl rfl hdg kk
theorem tk_iast (hx : p.tables.exec = Jvm.exec) (hb : c.code = cc) (w : tk_W D cy ad base σ s H locs) {k n : Nat} (hs : tk_sh k = tk_ia n) {i x : Int32} (hin : vp_in i n) (hdg : decode cc pc = .ok (.iastore, 1))
    (kk : ∀ (H1 : Heap) (locs1 : List Loc), tk_W D cy ad base (tk_up σ k i.toNatClampNeg x) s H1 locs1 → W p l e R s m args below meth c H1 locs1 cells slots Z (F0 m (pc + 1) ls rest)) : W p l e R s m args below meth c H locs cells slots Z (F0 m pc ls (.int x :: .int i :: .ref (ad k) :: rest)) := by
  refine va_iast hx hb w.1 w.2.1 w.2.2.1 w.2.2.2.1 k 0 (tk_ei hs) rfl hin hdg (fun H1 locs1 hP _ hS => kk H1 locs1 ⟨w.1, ?_, tk_D_any w.2.2.1, hS, w.2.2.2.2.1, w.2.2.2.2.2⟩)
  rw [tk_w_set (σ' := tk_up σ k i.toNatClampNeg x) (tk_lti hs) (by simp only [tk_e, hs, tk_up_1]) (fun a ha => by rw [tk_up_o σ _ x ha]; rfl)] at hP
  exact hP
theorem tk_zast (hx : p.tables.exec = Jvm.exec) (hb : c.code = cc) (w : tk_W D cy ad base σ s H locs) {k n : Nat} (hs : tk_sh k = tk_za n) {i x : Int32} (hin : vp_in i n) (hxx : vp_nar .boolean x = x) (hdg : decode cc pc = .ok (.bastore, 1))
    (kk : ∀ (H1 : Heap) (locs1 : List Loc), tk_W D cy ad base (tk_up σ k i.toNatClampNeg x) s H1 locs1 → W p l e R s m args below meth c H1 locs1 cells slots Z (F0 m (pc + 1) ls rest)) : W p l e R s m args below meth c H locs cells slots Z (F0 m pc ls (.int x :: .int i :: .ref (ad k) :: rest)) := by
  refine va_zast hx hb w.1 w.2.1 w.2.2.1 w.2.2.2.1 k 1 (tk_ez hs) rfl hin hdg (fun H1 locs1 hP _ hS => kk H1 locs1 ⟨w.1, ?_, tk_D_any w.2.2.1, hS, w.2.2.2.2.1, w.2.2.2.2.2⟩)
  rw [hxx] at hP
  rw [tk_w_set (σ' := tk_up σ k i.toNatClampNeg x) (tk_ltz hs) (by simp only [tk_e, hs, tk_up_1]) (fun a ha => by rw [tk_up_o σ _ x ha]; rfl)] at hP
  exact hP
theorem tk_after {Q' : Option tk_V → tk_S → Prop} {a : Array Value} (w : tk_W D cy ad base σ s H locs) (hr : va_Run p l e R s m args below meth c H locs cells slots 0 0 (F0 m pc ls st0) rest (tk_Q D cy ad base Q' a) (fun q => base ≤ q))
    (kk : ∀ (r : Option tk_V) (σ1 : tk_S) (H1 : Heap) (locs1 : List Loc), Q' r σ1 → tk_W D cy ad base σ1 s H1 locs1 → W p l e R s m args below meth c H1 locs1 cells slots Z (F0 m (pc + 3) ls ((r.map (toV ad)).toList ++ rest))) : W p l e R s m args below meth c H locs cells slots Z (F0 m pc ls st0) := by
  intro T hT X
  obtain ⟨v, st₀, t, T', L, h0, X', hL, e1, e2, ⟨⟨r, σ1, hv, hq, hP1⟩, hz, hk⟩, st⟩ := hr T hT X
  cases hv
  rw [h0] at hz hk
  have hS := w.2.2.2.1
  obtain ⟨t2, a1, b1⟩ := kk r σ1 T'.heap (locs ++ L) hq ⟨w.1, by rw [e1]; exact hP1, tk_D_any w.2.2.1, ⟨Nat.le_trans hS.1 (by rw [e1]; exact hz), fun q h1 h2 => by rw [e1, hk q (Nat.lt_of_lt_of_le h1 hS.1) h2]; exact hS.2.1 q h1 h2, fun q hq => by
      rcases List.mem_append.mp hq with h | h
      · exact hS.2.2 q h
      · exact hL q h⟩, w.2.2.2.2.1, w.2.2.2.2.2⟩ T' rfl X'
  exact ⟨t2, st t2 a1, b1⟩
theorem tk_cb {d : Nat} (hts : ∀ w ∈ wsL_law, w.before args s = true) {own : String} {y : MethodName} {bytes : ByteArray} {maxL n index : Nat} {ret : Option FieldType} (hcode : Cond.code y bytes maxL ret ∈ wsL_law) (hini : Cond.initialized y.cls ∈ wsL_law) (hl : Cond.methodLink own index y ∈ wsL_law) (hd : y.cls ≠ "java/lang/invoke/MethodHandle" ∧ y.cls ≠ "java/lang/invoke/VarHandle" ∧ (parseMethodDescriptor y.desc).map (fun d => d.parameters.length) = some n) (hmx : maxL ≤ 45) : CallB (tk_rm (d + 1)) s args own index y bytes maxL ret (Cond.code y bytes maxL ret :: wsL_law) (tk_rm d) 0 0 n :=
  callB_of n hts (tk_gin hcode) rfl rfl rfl (hts _ hini) (hts _ hl) hd ⟨Nat.le_refl _, by show 8 + (maxL + 11) + 64 * d ≤ 64 * (d + 1); omega⟩
theorem tk_cS {d nL0 : Nat} {own : String} {ret0 : Option FieldType} (Xc : tk_X own cc nL0 ret0 p s m args meth c) (w : tk_W D cy ad base σ s H locs) {y : MethodName} {bytes : ByteArray} {maxL index : Nat} {ret : Option FieldType} {as : List tk_V} {Q' : Option tk_V → tk_S → Prop} (hcode : Cond.code y bytes maxL ret ∈ wsL_law) (hini : Cond.initialized y.cls ∈ wsL_law) (hl : Cond.methodLink own index y ∈ wsL_law) (hst : Cond.static y ∈ wsL_law) (hd : y.cls ≠ "java/lang/invoke/MethodHandle" ∧ y.cls ≠ "java/lang/invoke/VarHandle" ∧ (parseMethodDescriptor y.desc).map (fun d => d.parameters.length) = some as.length) (hmx : maxL ≤ 45) (hsz : ls.size = nL0) (hrest : (rest.map fun v => v.category).sum ≤ 8) (hstk : st0 = (as.map (toV ad)).reverse ++ rest) (hdg : decode cc pc = .ok (.invokestatic index, 3)) (hC : tk_C y bytes maxL ret d as σ Q')
    (kk : ∀ (r : Option tk_V) (σ1 : tk_S) (H1 : Heap) (locs1 : List Loc), Q' r σ1 → tk_W D cy ad base σ1 s H1 locs1 → W p l e (tk_rm (d + 1)) s m args below meth c H1 locs1 0 0 Z (F0 m (pc + 3) ls ((r.map (toV ad)).toList ++ rest))) : W p l e (tk_rm (d + 1)) s m args below meth c H locs 0 0 Z (F0 m pc ls st0) := by
  obtain ⟨hx, hb, hml, hown, hts, -, -⟩ := Xc
  exact tk_after w (va_runS (As := as.map (toV ad)) ⟨hx, hb, hml, hown, hts⟩ (hC l D cy ad base) ⟨tk_cb hts hcode hini hl hd hmx, hts _ hst⟩ ⟨tk_blind, fun U hU hW => tk_pre w U hU hW⟩ rfl (List.length_map ..) hsz hstk (lv_room hrest) hdg ⟨Nat.le_refl _, Nat.le_refl _⟩) kk
theorem tk_cSN {d nL0 : Nat} {own host : String} {ret0 : Option FieldType} (Xc : tk_X own cc nL0 ret0 p s m args meth c) (w : tk_W D cy ad base σ s H locs) {y : MethodName} {bytes : ByteArray} {maxL index : Nat} {ret : Option FieldType} {as : List tk_V} {Q' : Option tk_V → tk_S → Prop} (hcode : Cond.code y bytes maxL ret ∈ wsL_law) (hini : Cond.initialized y.cls ∈ wsL_law) (hl : Cond.methodLinkNest own index y host ∈ tk_nl) (hst : Cond.static y ∈ wsL_law) (hd : y.cls ≠ "java/lang/invoke/MethodHandle" ∧ y.cls ≠ "java/lang/invoke/VarHandle" ∧ (parseMethodDescriptor y.desc).map (fun d => d.parameters.length) = some as.length) (hmx : maxL ≤ 45) (hsz : ls.size = nL0) (hrest : (rest.map fun v => v.category).sum ≤ 8) (hstk : st0 = (as.map (toV ad)).reverse ++ rest) (hdg : decode cc pc = .ok (.invokestatic index, 3)) (hC : tk_C y bytes maxL ret d as σ Q')
    (kk : ∀ (r : Option tk_V) (σ1 : tk_S) (H1 : Heap) (locs1 : List Loc), Q' r σ1 → tk_W D cy ad base σ1 s H1 locs1 → W p l e (tk_rm (d + 1)) s m args below meth c H1 locs1 0 0 Z (F0 m (pc + 3) ls ((r.map (toV ad)).toList ++ rest))) : W p l e (tk_rm (d + 1)) s m args below meth c H locs 0 0 Z (F0 m pc ls st0) := by
  obtain ⟨hx, hb, hml, hown, hts, -, -⟩ := Xc
  exact tk_after w (va_runSN (As := as.map (toV ad)) ⟨hx, hb, hml, hown, hts⟩ (hC l D cy ad base) ⟨va_cnB as.length hts (tk_gin hcode) rfl rfl rfl (w.2.2.2.2.2 _ hl) (hts _ hini) hd ⟨Nat.le_refl _, by show 8 + (maxL + 11) + 64 * d ≤ 64 * (d + 1); omega⟩, hts _ hst, trivial⟩ ⟨tk_blind, fun U hU hW => tk_pre w U hU hW⟩ rfl (List.length_map ..) hsz hstk (lv_room hrest) hdg ⟨Nat.le_refl _, Nat.le_refl _⟩) kk
theorem tk_cV {d nL0 : Nat} {own : String} {ret0 : Option FieldType} (Xc : tk_X own cc nL0 ret0 p s m args meth c) (w : tk_W D cy ad base σ s H locs) {y : MethodName} {bytes : ByteArray} {maxL index : Nat} {ret : Option FieldType} {k ci : Nat} {fs : List (Nat × Nat)} (hs : tk_sh k = .inl (ci, fs)) {T : u_T} {N : Nat} (hc : vwCl[ci]? = some (y.cls, T, N)) {as : List tk_V} {Q' : Option tk_V → tk_S → Prop} (hcode : Cond.code y bytes maxL ret ∈ wsL_law) (hini : Cond.initialized y.cls ∈ wsL_law) (hl : Cond.methodLink own index y ∈ wsL_law) (hst : Cond.instanceMethod y ∈ wsL_law) (hse : Cond.selects y.cls y y ∈ wsL_law) (hd : y.cls ≠ "java/lang/invoke/MethodHandle" ∧ y.cls ≠ "java/lang/invoke/VarHandle" ∧ (parseMethodDescriptor y.desc).map (fun d => d.parameters.length) = some as.length) (hmx : maxL ≤ 45) (hsz : ls.size = nL0) (hrest : (rest.map fun v => v.category).sum ≤ 8) (hstk : st0 = (as.map (toV ad)).reverse ++ .ref (ad k) :: rest) (hdg : decode cc pc = .ok (.invokevirtual index, 3)) (hC : tk_C y bytes maxL ret d (aN k :: as) σ Q')
    (kk : ∀ (r : Option tk_V) (σ1 : tk_S) (H1 : Heap) (locs1 : List Loc), Q' r σ1 → tk_W D cy ad base σ1 s H1 locs1 → W p l e (tk_rm (d + 1)) s m args below meth c H1 locs1 0 0 Z (F0 m (pc + 3) ls ((r.map (toV ad)).toList ++ rest))) : W p l e (tk_rm (d + 1)) s m args below meth c H locs 0 0 Z (F0 m pc ls st0) := by
  obtain ⟨hx, hb, hml, hown, hts, -, -⟩ := Xc
  exact tk_after w (va_runV (As := as.map (toV ad)) (b := ad k) (C := y.cls) ⟨hx, hb, hml, hown, hts⟩ (hC l D cy ad base) ⟨tk_cb hts hcode hini hl hd hmx, hts _ hst, hts _ hse⟩ ⟨tk_blind, va_recv w.1 w.2.1 hc (tk_eo hs), fun U hU hW => tk_pre (as := aN k :: as) w U hU hW⟩ rfl (List.length_map ..) hsz hstk (lv_room hrest) hdg ⟨Nat.le_refl _, Nat.le_refl _⟩) kk
theorem tk_reti {own : String} {nL : Nat} {d : Nat} {Q : Int32 → tk_S → Prop} (Xc : tk_X own cc nL (some .int) p s m args meth c) (w : tk_W D cy ad base σ s H locs) {x : Int32} (hdg : decode cc pc = .ok (.ireturn, 1)) (hq : Q x σ) : W p l e (tk_rm d) s m args below meth c H locs 0 0 (MQ below (tk_Q D cy ad base (tk_i Q)) args s 0 0 (fun q => base ≤ q)) (F0 m pc ls [.int x]) := by
  obtain ⟨hx, hb, -, -, -, hr, hlk⟩ := Xc
  exact W.iret hx hb hr (fun t ht hW => ⟨⟨some (aI x), σ, rfl, ⟨x, rfl, hq⟩, by rw [ht]; exact w.2.1⟩, w.2.2.2.1.F ht⟩) w.2.2.2.1.2.2 hdg hlk
theorem tk_retz {own : String} {nL : Nat} {d : Nat} {Q : Int32 → tk_S → Prop} (Xc : tk_X own cc nL (some .boolean) p s m args meth c) (w : tk_W D cy ad base σ s H locs) {x : Int32} (hdg : decode cc pc = .ok (.ireturn, 1)) (hn : narrow .boolean (.int x) = .int x) (hq : Q x σ) : W p l e (tk_rm d) s m args below meth c H locs 0 0 (MQ below (tk_Q D cy ad base (tk_i Q)) args s 0 0 (fun q => base ≤ q)) (F0 m pc ls [.int x]) := by
  obtain ⟨hx, hb, -, -, -, hr, hlk⟩ := Xc
  exact W.zret hx hb hr hn (fun t ht hW => ⟨⟨some (aI x), σ, rfl, ⟨x, rfl, hq⟩, by rw [ht]; exact w.2.1⟩, w.2.2.2.1.F ht⟩) w.2.2.2.1.2.2 hdg hlk
theorem tk_retl {own : String} {nL : Nat} {d : Nat} {Q : Int64 → tk_S → Prop} (Xc : tk_X own cc nL (some .long) p s m args meth c) (w : tk_W D cy ad base σ s H locs) {x : Int64} (hdg : decode cc pc = .ok (.lreturn, 1)) (hq : Q x σ) : W p l e (tk_rm d) s m args below meth c H locs 0 0 (MQ below (tk_Q D cy ad base (tk_l Q)) args s 0 0 (fun q => base ≤ q)) (F0 m pc ls [.long x]) := by
  obtain ⟨hx, hb, -, -, -, hr, hlk⟩ := Xc
  exact W.lret hx hb hr (fun t ht hW => ⟨⟨some (aL x), σ, rfl, ⟨x, rfl, hq⟩, by rw [ht]; exact w.2.1⟩, w.2.2.2.1.F ht⟩) w.2.2.2.1.2.2 hdg hlk
theorem tk_retv {own : String} {nL : Nat} {d : Nat} {Q : tk_S → Prop} (Xc : tk_X own cc nL none p s m args meth c) (w : tk_W D cy ad base σ s H locs) (hdg : decode cc pc = .ok (.return_, 1)) (hq : Q σ) : W p l e (tk_rm d) s m args below meth c H locs 0 0 (MQ below (tk_Q D cy ad base (tk_v Q)) args s 0 0 (fun q => base ≤ q)) (F0 m pc ls []) := by
  obtain ⟨hx, hb, -, -, -, hr, hlk⟩ := Xc
  exact W.vret hx hb hr (fun t ht hW => ⟨⟨none, σ, rfl, ⟨rfl, hq⟩, by rw [ht]; exact w.2.1⟩, w.2.2.2.1.F ht⟩) w.2.2.2.1.2.2 hdg hlk
end TK
/-- more is promised than is asked -/
theorem tk_C_mono {y : MethodName} {cc : ByteArray} {nL : Nat} {ret : Option FieldType} {d : Nat} {as : List tk_V} {σ : tk_S} {Q Q' : Option tk_V → tk_S → Prop} (h : tk_C y cc nL ret d as σ Q) (hq : ∀ r σ1, Q r σ1 → Q' r σ1) : tk_C y cc nL ret d as σ Q' := by
  intro l D cy ad base p e ha hc hk s m args below hf happ hP hT
  obtain ⟨k, o, h1, h2, h3, ⟨⟨r, σ1, e1, e2, e3⟩, hF⟩, hL⟩ := h l D cy ad base p e ha hc hk s m args below hf happ hP hT
  exact ⟨k, o, h1, h2, h3, ⟨⟨r, σ1, e1, hq r σ1 e2, e3⟩, hF⟩, hL⟩
