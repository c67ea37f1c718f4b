/-! ===== Int32 by its bits: bt x i ===== -/
def bt (x : Int32) (i : Nat) : Bool := x.toBitVec.getLsbD i
theorem b_ext {x y : Int32} (h : ∀ i, i < 32 → bt x i = bt y i) : x = y := Int32.toBitVec_inj.mp (BitVec.eq_of_getLsbD_eq (fun i hi => h i hi))
theorem b_or (x y : Int32) (i : Nat) : bt (x ||| y) i = (bt x i || bt y i) := by unfold bt; rw [Int32.toBitVec_or, BitVec.getLsbD_or]
theorem b_and (x y : Int32) (i : Nat) : bt (x &&& y) i = (bt x i && bt y i) := by unfold bt; rw [Int32.toBitVec_and, BitVec.getLsbD_and]
theorem b_xor (x y : Int32) (i : Nat) : bt (x ^^^ y) i = (bt x i ^^ bt y i) := by unfold bt; rw [Int32.toBitVec_xor, BitVec.getLsbD_xor]
theorem b_big {x : Int32} {i : Nat} (h : 32 ≤ i) : bt x i = false := BitVec.getLsbD_of_ge _ _ h
theorem b_255 (i : Nat) : bt 255 i = decide (i < 8) := by
  rcases Nat.lt_or_ge i 32 with h | h
  · exact (by decide +kernel : ∀ i, i < 32 → bt 255 i = decide (i < 8)) i h
  · rw [b_big h, decide_eq_false (by omega)]
theorem b_65535 (i : Nat) : bt 65535 i = decide (i < 16) := by
  rcases Nat.lt_or_ge i 32 with h | h
  · exact (by decide +kernel : ∀ i, i < 32 → bt 65535 i = decide (i < 16)) i h
  · rw [b_big h, decide_eq_false (by omega)]
theorem b_m1 : ∀ i, i < 32 → bt (-1) i = true := by decide +kernel
theorem b_0 (i : Nat) : bt 0 i = false := BitVec.getLsbD_zero
theorem s_l : ∀ n, n < 32 → ((nI n &&& 31).toBitVec.smod 32).toNat = n := by decide +kernel
theorem s_u : ∀ n, n < 32 → (((nI n).toUInt32 &&& Int32.toUInt32 31).toBitVec % 32).toNat = n := by decide +kernel
theorem b_shl (n : Nat) (hn : n < 32) (x : Int32) {i : Nat} (hi : i < 32) : bt (x <<< (nI n &&& 31)) i = (decide (n ≤ i) && bt x (i - n)) := by
  unfold bt
  rw [Int32.toBitVec_shiftLeft]
  show (x.toBitVec <<< ((nI n &&& 31).toBitVec.smod 32).toNat).getLsbD i = _
  rw [s_l n hn, BitVec.getLsbD_shiftLeft]
  rcases Nat.lt_or_ge i n with h | h
  · simp [h, Nat.not_le.mpr h]
  · simp [hi, h, Nat.not_lt.mpr h]
theorem b_ushr (n : Nat) (hn : n < 32) (x : Int32) (i : Nat) : bt ((x.toUInt32 >>> ((nI n).toUInt32 &&& Int32.toUInt32 31)).toInt32) i = bt x (n + i) := by
  show (x.toUInt32 >>> ((nI n).toUInt32 &&& Int32.toUInt32 31)).toBitVec.getLsbD i = x.toUInt32.toBitVec.getLsbD (n + i)
  rw [UInt32.toBitVec_shiftRight]
  show (x.toUInt32.toBitVec >>> (((nI n).toUInt32 &&& Int32.toUInt32 31).toBitVec % 32).toNat).getLsbD i = _
  rw [s_u n hn, BitVec.getLsbD_ushiftRight]
theorem b_sshr (n : Nat) (hn : n < 32) (x : Int32) {i : Nat} (hi : i < 32) : bt (x >>> (nI n &&& 31)) i = if n + i < 32 then bt x (n + i) else bt x 31 := by
  unfold bt
  rw [Int32.toBitVec_shiftRight]
  show (x.toBitVec.sshiftRight ((nI n &&& 31).toBitVec.smod 32).toNat).getLsbD i = _
  rw [s_l n hn, BitVec.getLsbD_sshiftRight, BitVec.msb_eq_getLsbD_last]
  simp [hi]
theorem b_shl8 (x : Int32) {i : Nat} (hi : i < 32) : bt (x <<< ((8 : Int32) &&& 31)) i = (decide (8 ≤ i) && bt x (i - 8)) := b_shl 8 (by omega) x hi
theorem b_shl16 (x : Int32) {i : Nat} (hi : i < 32) : bt (x <<< ((16 : Int32) &&& 31)) i = (decide (16 ≤ i) && bt x (i - 16)) := b_shl 16 (by omega) x hi
theorem b_shl24 (x : Int32) {i : Nat} (hi : i < 32) : bt (x <<< ((24 : Int32) &&& 31)) i = (decide (24 ≤ i) && bt x (i - 24)) := b_shl 24 (by omega) x hi
theorem b_sshr8 (x : Int32) {i : Nat} (hi : i < 32) : bt (x >>> ((8 : Int32) &&& 31)) i = if 8 + i < 32 then bt x (8 + i) else bt x 31 := b_sshr 8 (by omega) x hi
/-! states: a cell's places written at one stroke -/
def tk_row (σ : tk_S) (K : Nat) (f : Nat → Int32) : tk_S := (fun a => if a = K then f else σ.1 a, σ.2)
theorem tk_row_s (σ : tk_S) (K : Nat) (f : Nat → Int32) : (tk_row σ K f).1 K = f := by simp [tk_row]
theorem tk_row_o (σ : tk_S) {K a : Nat} (f : Nat → Int32) (h : a ≠ K) : (tk_row σ K f).1 a = σ.1 a := by simp [tk_row, h]
theorem tk_row_2 (σ : tk_S) (K : Nat) (f : Nat → Int32) : (tk_row σ K f).2 = σ.2 := rfl
theorem tk_row_row (σ : tk_S) (K : Nat) (f g : Nat → Int32) : tk_row (tk_row σ K f) K g = tk_row σ K g := by
  unfold tk_row
  refine Prod.ext (funext fun a => ?_) rfl
  by_cases h : a = K <;> simp [h]
theorem tk_row_id (σ : tk_S) (K : Nat) : tk_row σ K (σ.1 K) = σ := by
  unfold tk_row
  refine Prod.ext (funext fun a => ?_) rfl
  by_cases h : a = K <;> simp [h]
theorem tk_up_row (σ : tk_S) (K j : Nat) (x : Int32) : tk_up σ K j x = tk_row σ K (upd (σ.1 K) j x) := by
  unfold tk_up tk_row
  refine Prod.ext (funext fun a => ?_) rfl
  by_cases h : a = K <;> simp [h]
/-- the first n places of cell K become g -/
def tk_fill (σ : tk_S) (K n : Nat) (g : Nat → Int32) : tk_S := tk_row σ K (fun j => if j < n then g j else σ.1 K j)
theorem tk_fill_0 (σ : tk_S) (K : Nat) (g : Nat → Int32) : tk_fill σ K 0 g = σ := by
  unfold tk_fill
  rw [show (fun j => if j < 0 then g j else σ.1 K j) = σ.1 K from funext fun j => by simp, tk_row_id]
theorem tk_fill_s (σ : tk_S) (K n : Nat) (g : Nat → Int32) : (tk_fill σ K n g).1 K = fun j => if j < n then g j else σ.1 K j := tk_row_s _ _ _
theorem tk_fill_o (σ : tk_S) {K a : Nat} (n : Nat) (g : Nat → Int32) (h : a ≠ K) : (tk_fill σ K n g).1 a = σ.1 a := tk_row_o _ _ h
theorem tk_fill_2 (σ : tk_S) (K n : Nat) (g : Nat → Int32) : (tk_fill σ K n g).2 = σ.2 := rfl
/-- behind the places that are filled a cell is as it was -/
theorem tk_fill_ge (σ : tk_S) (K a : Nat) {n j : Nat} (g : Nat → Int32) (h : n ≤ j) : (tk_fill σ K n g).1 a j = σ.1 a j := by
  by_cases e : a = K
  · subst e
    rw [tk_fill_s]
    simp [Nat.not_lt.mpr h]
  · rw [tk_fill_o _ _ _ e]
theorem tk_fill_up (σ : tk_S) (K n : Nat) (g : Nat → Int32) {x : Int32} (hx : x = g n) : tk_up (tk_fill σ K n g) K n x = tk_fill σ K (n + 1) g := by
  rw [tk_up_row, tk_fill_s]
  unfold tk_fill
  rw [tk_row_row]
  refine congrArg (tk_row σ K) (funext fun j => ?_)
  unfold upd
  by_cases h : j = n
  · subst h
    simp [hx]
  · by_cases h2 : j < n
    · simp [h, h2, Nat.lt_succ_of_lt h2]
    · simp [h, h2, show ¬ j < n + 1 by omega]
/-- a loop that counts up to N: from its end to its beginning -/
theorem up_loop (G : Nat → Prop) (N : Nat) (he : G N) (hs : ∀ j, j < N → G (j + 1) → G j) : G 0 := by
  have h : ∀ n j, n + j = N → G j := by
    intro n
    induction n with
    | zero => intro j hj; rw [show j = N by omega]; exact he
    | succ n ih => intro j hj; exact hs j (by omega) (ih (j + 1) (by omega))
  exact h N 0 (by omega)
/-- the same from i0 on -/
theorem up_from (G : Nat → Prop) (N i0 : Nat) (h0 : i0 ≤ N) (he : G N) (hs : ∀ j, i0 ≤ j → j < N → G (j + 1) → G j) : G i0 := by
  have h : ∀ n j, i0 ≤ j → n + j = N → G j := by
    intro n
    induction n with
    | zero => intro j _ hj; rw [show j = N by omega]; exact he
    | succ n ih => intro j h1 hj; exact hs j h1 (by omega) (ih (j + 1) (by omega) (by omega))
  exact h (N - i0) i0 (Nat.le_refl _) (by omega)
theorem le_nI {n k : Nat} (hn : n < 2 ^ 31) (hk : k < 2 ^ 31) : nI n ≤ nI k ↔ n ≤ k := nI_leI hn hk
theorem lt_nI {n k : Nat} (hn : n < 2 ^ 31) (hk : k < 2 ^ 31) : nI n < nI k ↔ n < k := nI_ltI hn hk
/-- one bit -/
theorem bt_1 {i j : Nat} (hi : i < 32) : bt ((1 : Int32) <<< (nI i &&& 31)) j = decide (j = i) := by
  by_cases hj : j < 32
  · rw [b_shl i hi 1 hj]
    have h1 : ∀ n, n < 32 → bt 1 n = decide (n = 0) := by decide +kernel
    rw [h1 (j - i) (by omega)]
    by_cases e : j = i
    · subst e; simp
    · by_cases h : i ≤ j
      · simp [e, show ¬ j - i = 0 by omega]
      · simp [e, h]
  · rw [b_big (by omega), decide_eq_false (by omega)]
theorem bt_m1 {i : Nat} (h : i < 32) : bt (-1) i = true := b_m1 i h
theorem bt_not (x : Int32) {i : Nat} (h : i < 32) : bt (x ^^^ (-1)) i = !bt x i := by
  rw [b_xor, bt_m1 h]; simp
theorem bt_z {x : Int32} (h : ∀ i, i < 32 → bt x i = false) : x = 0 := b_ext (fun i hi => by rw [h i hi, b_0])
/-- a bit by shifting -/
theorem bt_shr1 (x : Int32) {i : Nat} (hi : i < 32) : (x >>> (nI i &&& 31)) &&& 1 = if bt x i then 1 else 0 := by
  apply b_ext
  intro j hj
  have h1 : ∀ n, n < 32 → bt 1 n = decide (n = 0) := by decide +kernel
  rw [b_and, b_sshr i hi x hj, h1 j hj]
  by_cases e : j = 0
  · subst e
    simp only [Nat.add_zero, hi, if_true, decide_true, Bool.and_true]
    cases bt x i <;> simp [b_0, h1]
  · rw [decide_eq_false e, Bool.and_false]
    cases bt x i
    · simp [b_0]
    · simp [h1 j hj, e]
