/-! how many bits: Integer.bitCount, by bytes -/
theorem cnt_c {p q : Nat → Bool} : ∀ {n : Nat}, (∀ i, i < n → p i = q i) → cnt p n = cnt q n := by
  intro n
  induction n with
  | zero => intro _; rfl
  | succ n ih => intro h; show cnt p n + _ = cnt q n + _; rw [ih (fun i hi => h i (by omega)), h n (by omega)]
theorem cnt_add (p : Nat → Bool) (m : Nat) : ∀ n, cnt p (m + n) = cnt p m + cnt (fun i => p (m + i)) n := by
  intro n
  induction n with
  | zero => rfl
  | succ n ih => show cnt p (m + n) + (if p (m + n) then 1 else 0) = cnt p m + (cnt (fun i => p (m + i)) n + (if p (m + n) then 1 else 0)); rw [ih, Nat.add_assoc]
theorem cnt_n (p : Nat → Bool) : ∀ n, cnt p n ≤ n := by
  intro n
  induction n with
  | zero => exact Nat.le_refl _
  | succ n ih => show cnt p n + (if p n then 1 else 0) ≤ n + 1; split <;> omega
theorem nI_and (a b : Nat) : nI a &&& nI b = nI (a &&& b) := by
  apply Int32.toBitVec_inj.1
  show BitVec.ofNat 32 a &&& BitVec.ofNat 32 b = BitVec.ofNat 32 (a &&& b)
  apply BitVec.eq_of_getLsbD_eq
  intro i hi
  simp [hi]
theorem bt_nI (n : Nat) {i : Nat} (hi : i < 32) : bt (nI n) i = n.testBit i := by
  unfold bt nI
  show (BitVec.ofNat 32 n).getLsbD i = _
  rw [BitVec.getLsbD_ofNat]
  simp [hi]
theorem and_sp (p q m r : Nat) (hp : p < 256) (hm : m < 256) : (256 * q + p) &&& (256 * r + m) = 256 * (q &&& r) + (p &&& m) := by
  apply Nat.eq_of_testBit_eq
  intro i
  have hpm : p &&& m < 2 ^ 8 := Nat.and_lt_two_pow _ (by omega)
  rw [Nat.testBit_and, show 256 * q + p = 2 ^ 8 * q + p by omega, show 256 * r + m = 2 ^ 8 * r + m by omega, show 256 * (q &&& r) + (p &&& m) = 2 ^ 8 * (q &&& r) + (p &&& m) by omega, Nat.testBit_two_pow_mul_add _ (by omega), Nat.testBit_two_pow_mul_add _ (by omega), Nat.testBit_two_pow_mul_add _ hpm]
  by_cases h : i < 8
  · simp [h]
  · simp [h]
def g1 (a : Nat) : Nat := a - (a / 2 &&& 85)
def g2 (a : Nat) : Nat := (g1 a &&& 51) + (g1 a / 4 &&& 51)
def g3 (a : Nat) : Nat := (g2 a + g2 a / 16) % 16
theorem g_tab : ∀ a, a < 256 → g1 a < 256 ∧ (a / 2 &&& 85) ≤ a ∧ g2 a % 16 ≤ 4 ∧ g2 a / 16 ≤ 4 ∧ g3 a = cnt (fun i => a.testBit i) 8 ∧ g3 a ≤ 8 ∧ (a / 2 &&& 21845) = (a / 2 &&& 85) ∧ (g1 a / 4 &&& 13107) = (g1 a / 4 &&& 51) ∧ (g1 a &&& 13107) = (g1 a &&& 51) := by decide +kernel
theorem g_lk : ∀ a, a < 256 → ∀ e, e < 2 → (a / 2 + 128 * e &&& 85) = (a / 2 &&& 85) := by decide +kernel
theorem g_lk2 : ∀ a, a < 256 → ∀ e, e < 4 → (a / 4 + 64 * e &&& 51) = (a / 4 &&& 51) := by decide +kernel
theorem f1_by {a b c : Nat} (ha : a < 256) (hb : b < 256) (hc : c < 256) : ((a + 256 * b + 65536 * c) / 2 &&& 1431655765) = (a / 2 &&& 85) + 256 * (b / 2 &&& 85) + 65536 * (c / 2 &&& 85) := by
  rw [show (a + 256 * b + 65536 * c) / 2 = 256 * (256 * (c / 2) + (b / 2 + 128 * (c % 2))) + (a / 2 + 128 * (b % 2)) by omega, show (1431655765 : Nat) = 256 * (256 * 21845 + 85) + 85 by rfl, and_sp _ _ _ _ (by omega) (by omega), and_sp _ _ _ _ (by omega) (by omega), g_lk a ha _ (by omega), g_lk b hb _ (by omega), (g_tab c hc).2.2.2.2.2.2.1]
  omega
theorem f2_by {a b c : Nat} (ha : a < 256) (hb : b < 256) (hc : c < 256) : ((g1 a + 256 * g1 b + 65536 * g1 c) &&& 858993459) + ((g1 a + 256 * g1 b + 65536 * g1 c) / 4 &&& 858993459) = g2 a + 256 * g2 b + 65536 * g2 c := by
  have ta := g_tab a ha
  have tb := g_tab b hb
  have tc := g_tab c hc
  rw [show (g1 a + 256 * g1 b + 65536 * g1 c) / 4 = 256 * (256 * (g1 c / 4) + (g1 b / 4 + 64 * (g1 c % 4))) + (g1 a / 4 + 64 * (g1 b % 4)) by omega, show g1 a + 256 * g1 b + 65536 * g1 c = 256 * (256 * g1 c + g1 b) + g1 a by omega, show (858993459 : Nat) = 256 * (256 * 13107 + 51) + 51 by rfl, and_sp _ _ _ _ (by omega) (by omega), and_sp _ _ _ _ (by omega) (by omega), and_sp _ _ _ _ (by omega) (by omega), and_sp _ _ _ _ (by omega) (by omega), g_lk2 _ ta.1 _ (by omega), g_lk2 _ tb.1 _ (by omega), tc.2.2.2.2.2.2.2.1, tc.2.2.2.2.2.2.2.2]
  unfold g2
  omega
theorem and15 (n : Nat) : n &&& 15 = n % 16 := Nat.and_two_pow_sub_one_eq_mod n 4
theorem f3_by {a b c : Nat} (ha : a < 256) (hb : b < 256) (hc : c < 256) : ((g2 a + 256 * g2 b + 65536 * g2 c) + (g2 a + 256 * g2 b + 65536 * g2 c) / 16 &&& 252645135) = g3 a + 256 * g3 b + 65536 * g3 c := by
  have ta := g_tab a ha
  have tb := g_tab b hb
  have tc := g_tab c hc
  have h15 : ∀ n, n < 256 → (n &&& 3855) = n % 16 := by decide +kernel
  rw [show (g2 a + 256 * g2 b + 65536 * g2 c) + (g2 a + 256 * g2 b + 65536 * g2 c) / 16 = 256 * (256 * (g2 c + g2 c / 16) + (g2 b + g2 b / 16 + 16 * (g2 c % 16))) + (g2 a + g2 a / 16 + 16 * (g2 b % 16)) by omega, show (252645135 : Nat) = 256 * (256 * 3855 + 15) + 15 by rfl, and_sp _ _ _ _ (by omega) (by omega), and_sp _ _ _ _ (by omega) (by omega), and15, and15, h15 _ (by omega)]
  unfold g3
  omega
theorem s_bitN (d N : Nat) (hN : N < 16777216) (σ : tk_S) (Q : Int32 → tk_S → Prop) (h : Q (nI (cnt (fun i => N.testBit i) 24)) σ) : p_J6_bitCount_0f7a4 d [aI (nI N)] σ Q := by
  obtain ⟨a, b, c, ha, hb, hc, e⟩ : ∃ a b c, a < 256 ∧ b < 256 ∧ c < 256 ∧ N = a + 256 * b + 65536 * c := ⟨N % 256, N / 256 % 256, N / 65536, by omega, by omega, by omega, by omega⟩
  have ta := g_tab a ha
  have tb := g_tab b hb
  have tc := g_tab c hc
  have hcnt : cnt (fun i => N.testBit i) 24 = g3 a + g3 b + g3 c := by
    rw [show (24 : Nat) = 8 + (8 + 8) from rfl, cnt_add, cnt_add, ta.2.2.2.2.1, tb.2.2.2.2.1, tc.2.2.2.2.1]
    have eN : N = 2 ^ 8 * (256 * c + b) + a := by omega
    have t0 : ∀ i, N.testBit i = if i < 8 then a.testBit i else (256 * c + b).testBit (i - 8) := fun i => by rw [eN, Nat.testBit_two_pow_mul_add _ (by omega)]
    have t1 : ∀ i, (256 * c + b).testBit i = if i < 8 then b.testBit i else c.testBit (i - 8) := fun i => by rw [show 256 * c + b = 2 ^ 8 * c + b by omega, Nat.testBit_two_pow_mul_add _ (by omega)]
    rw [cnt_c (q := fun i => a.testBit i) (fun i hi => by rw [t0 i, if_pos hi]), cnt_c (p := fun i => N.testBit (8 + i)) (q := fun i => b.testBit i) (fun i hi => by rw [t0, if_neg (by omega), t1, if_pos (by omega), show 8 + i - 8 = i by omega]), cnt_c (p := fun i => N.testBit (8 + (8 + i))) (q := fun i => c.testBit i) (fun i hi => by rw [t0, if_neg (by omega), t1, if_neg (by omega), show 8 + (8 + i) - 8 - 8 = i by omega])]
    omega
  refine e_J6_bitCount_0f7a4 d _ (b_J6_bitCount_0f7a4_0 d _ σ Q (fun z1 e1 z2 e2 z3 e3 z4 e4 z5 e5 => ?_))
  have ec : ∀ n : Nat, (OfNat.ofNat n : Int32) = nI n := fun _ => rfl
  rw [pk_ushrN (by omega) 1 1 (by decide), show (1431655765 : Int32) = nI 1431655765 from rfl, nI_and, show N / 2 ^ 1 = N / 2 by omega, e, f1_by ha hb hc, pk_sub (by have := ta.2.1; have := tb.2.1; have := tc.2.1; omega), show a + 256 * b + 65536 * c - ((a / 2 &&& 85) + 256 * (b / 2 &&& 85) + 65536 * (c / 2 &&& 85)) = g1 a + 256 * g1 b + 65536 * g1 c by have := ta.2.1; have := tb.2.1; have := tc.2.1; unfold g1; omega] at e1
  rw [e1, pk_ushrN (by have := ta.1; have := tb.1; have := tc.1; omega) 2 2 (by decide), show (858993459 : Int32) = nI 858993459 from rfl, nI_and, nI_and, nI_add, show (g1 a + 256 * g1 b + 65536 * g1 c) / 2 ^ 2 = (g1 a + 256 * g1 b + 65536 * g1 c) / 4 by omega, f2_by ha hb hc] at e2
  rw [e2, pk_ushrN (by have := ta.2.2; have := tb.2.2; have := tc.2.2; omega) 4 4 (by decide), show (252645135 : Int32) = nI 252645135 from rfl, nI_add, nI_and, show (g2 a + 256 * g2 b + 65536 * g2 c) / 2 ^ 4 = (g2 a + 256 * g2 b + 65536 * g2 c) / 16 by omega, f3_by ha hb hc] at e3
  have qa := ta.2.2.2.2.2.1
  have qb := tb.2.2.2.2.2.1
  have qc := tc.2.2.2.2.2.1
  rw [e3, pk_ushrN (by omega) 8 8 (by decide), nI_add, show (g3 a + 256 * g3 b + 65536 * g3 c) + (g3 a + 256 * g3 b + 65536 * g3 c) / 2 ^ 8 = (g3 a + g3 b) + 256 * (g3 b + g3 c) + 65536 * g3 c by omega] at e4
  rw [e4, pk_ushrN (by omega) 16 16 (by decide), nI_add, show ((g3 a + g3 b) + 256 * (g3 b + g3 c) + 65536 * g3 c) + ((g3 a + g3 b) + 256 * (g3 b + g3 c) + 65536 * g3 c) / 2 ^ 16 = (g3 a + g3 b + g3 c) + 256 * (g3 b + g3 c) + 65536 * g3 c by omega] at e5
  rw [e5, show (63 : Int32) = nI 63 from rfl, nI_and, Nat.and_two_pow_sub_one_eq_mod _ 6, show ((g3 a + g3 b + g3 c) + 256 * (g3 b + g3 c) + 65536 * g3 c) % 2 ^ 6 = g3 a + g3 b + g3 c by omega]
  rw [hcnt] at h
  exact h
theorem row_nat {x : Int32} (hx : ∀ i, 24 ≤ i → bt x i = false) : ∃ N, N < 16777216 ∧ x = nI N ∧ ∀ i, i < 32 → N.testBit i = bt x i := by
  refine ⟨x.toBitVec.toNat, ?_, ?_, fun i hi => ?_⟩
  · refine Nat.lt_pow_two_of_testBit (n := 24) _ (fun i hi => ?_)
    have := hx i hi
    unfold bt at this
    exact this
  · apply Int32.toBitVec_inj.1
    show x.toBitVec = BitVec.ofNat 32 x.toBitVec.toNat
    simp
  · rfl
theorem s_bitCount (d : Nat) (x : Int32) (hx : ∀ i, 24 ≤ i → bt x i = false) (σ : tk_S) (Q : Int32 → tk_S → Prop) (h : Q (nI (cnt (bt x) 24)) σ) : p_J6_bitCount_0f7a4 d [aI x] σ Q := by
  obtain ⟨N, hN, e, ht⟩ := row_nat hx
  rw [cnt_c (q := fun i => N.testBit i) (fun i hi => (ht i (by omega)).symm)] at h
  rw [e]
  exact s_bitN d N hN σ Q h
