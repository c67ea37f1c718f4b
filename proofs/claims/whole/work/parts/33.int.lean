/-! whole numbers as ints -/
def iI (z : Int) : Int32 := Int32.ofInt z
theorem iI_t {z : Int} (h1 : -2147483648 ≤ z) (h2 : z < 2147483648) : (iI z).toInt = z := Int32.toInt_ofInt_of_le (by omega) (by omega)
theorem nI_iI (n : Nat) : nI n = iI n := (Int32.ofInt_eq_ofNat (n := n)).symm
theorem iI_add (a b : Int) : iI a + iI b = iI (a + b) := (Int32.ofInt_add a b).symm
theorem iI_sub (a b : Int) : iI a - iI b = iI (a - b) := (Int32.ofInt_sub a b).symm
theorem iI_mul (a b : Int) : iI a * iI b = iI (a * b) := (Int32.ofInt_mul a b).symm
theorem iI_neg (a : Int) : -iI a = iI (-a) := (Int32.ofInt_neg a).symm
theorem iI_of (x : Int32) : x = iI x.toInt := (Int32.ofInt_toInt x).symm
theorem iI_lt {a b : Int} (h1 : -2147483648 ≤ a) (h2 : a < 2147483648) (h3 : -2147483648 ≤ b) (h4 : b < 2147483648) : iI a < iI b ↔ a < b := by rw [Int32.lt_iff_toInt_lt, iI_t h1 h2, iI_t h3 h4]
theorem iI_le {a b : Int} (h1 : -2147483648 ≤ a) (h2 : a < 2147483648) (h3 : -2147483648 ≤ b) (h4 : b < 2147483648) : iI a ≤ iI b ↔ a ≤ b := by rw [Int32.le_iff_toInt_le, iI_t h1 h2, iI_t h3 h4]
theorem iI_eq {a b : Int} (h1 : -2147483648 ≤ a) (h2 : a < 2147483648) (h3 : -2147483648 ≤ b) (h4 : b < 2147483648) : iI a = iI b ↔ a = b := by rw [← Int32.toInt_inj, iI_t h1 h2, iI_t h3 h4]
theorem iI_tdiv {a b : Int} (h1 : -2147483647 ≤ a) (h2 : a < 2147483648) (h3 : 0 < b) (h4 : b < 2147483648) : iI a / iI b = iI (a.tdiv b) := by
  rw [← Int32.toInt_inj, Int32.toInt_div_of_ne_right _ _ (fun q => by
    have := congrArg Int32.toInt q
    rw [iI_t (by omega) h4] at this
    have h : (-1 : Int32).toInt = -1 := by decide
    omega), iI_t (by omega) h2, iI_t (by omega) h4]
  have hb : (a.tdiv b).natAbs ≤ a.natAbs := by
    rw [Int.natAbs_tdiv]
    exact Nat.div_le_self _ _
  rw [iI_t (by omega) (by omega)]
theorem div_uq {a n q : Int} (hn : 0 < n) (h1 : q * n ≤ a) (h2 : a < q * n + n) : a / n = q := by
  have e1 : q ≤ a / n := (Int.le_ediv_iff_mul_le hn).mpr h1
  have e2 : a / n < q + 1 := (Int.ediv_lt_iff_lt_mul hn).mpr (by rw [Int.add_mul, Int.one_mul]; exact h2)
  omega
theorem div_lo {a n : Int} (hn : 0 < n) : a / n * n ≤ a := Int.ediv_mul_le a (by omega)
theorem div_hi {a n : Int} (hn : 0 < n) : a < a / n * n + n := by
  have := Int.lt_ediv_add_one_mul_self a hn
  rw [Int.add_mul, Int.one_mul] at this
  exact this
theorem nn_bt (x : Int32) : 0 ≤ x ↔ bt x 31 = false := by
  rw [Int32.le_iff_toInt_le, Int32.toInt_zero]
  have h : x.toBitVec.msb = bt x 31 := by unfold bt; rw [BitVec.msb_eq_getLsbD_last]
  rw [← h, BitVec.msb_eq_toInt]
  show 0 ≤ x.toInt ↔ decide (x.toInt < 0) = false
  rw [decide_eq_false_iff_not]
  omega
theorem xor_nn (x y : Int32) (hy : 0 ≤ y) : 0 ≤ x ^^^ y ↔ 0 ≤ x := by
  rw [nn_bt, nn_bt, b_xor, (nn_bt y).mp hy, Bool.xor_false]
theorem tk_ofWF {l : Launch} {y : MethodName} {ws ws' : List Cond} {rm : Room} {Pc : Array Value → State → Prop} {Qc : Array Value → State → Outcome → State → Prop} {mc ms : Nat} {free : Addr → Prop} {cc : ByteArray} {maxL : Nat} {ret : Option FieldType} (hy : plainFor y = true) (hw : ws = Cond.code y cc maxL ret :: ws')
    (body : ∀ p e s m args below meth c s₁, BodyLoose p l y (headSpec ws rm) cc maxL ret e s m args below meth c s₁ → c.maxLocals = maxL → Pc args s → W p l e (headSpec ws rm).room s m args below meth c s.heap [] 0 0 (MQ below Qc args s mc ms free) (entryFrame m args maxL)) : Met l y ws rm Pc Qc mc ms free := by
  refine MetFree.of_bodySF (code := cc) (maxLocals := maxL) (ret := ret) hy ?_ ?_
  · intro args s m h hn
    obtain ⟨meth, c, h1, h2, h3, h4, h5, h6, -, -⟩ := Cond.code_spec hn (atoms_spec (ws := ws) h _ (by rw [hw]; exact List.mem_cons_self))
    exact ⟨meth, c, h1, h2, h3, h4, h5, h6⟩
  · intro p e s m args below meth c s₁ B hml hP _
    have hh0 : s₁.heap = s.heap := by rw [B.state]; rfl
    obtain ⟨t, a1, o, b1, b2, b3⟩ := body p e s m args below meth c s₁ B hml hP s₁ hh0 (Stand.of_body B)
    exact ⟨t, o, a1, b1, b2, ⟨b3.1, b3.2⟩⟩
theorem tk_entryF {y : MethodName} {own : String} {cc : ByteArray} {nL : Nat} {ret : Option FieldType} {d : Nat} {as : List tk_V} {vals : List (Nat × tk_V)} {σ : tk_S} {Q : Option tk_V → tk_S → Prop} (hy : plainFor y = true) (ho : y.cls = own) (hn : ∀ ad : Nat → Nat, (lg_sl (as.map (toV ad))).length ≤ nL) (hv : ∀ ad : Nat → Nat, lv_args 0 (as.map (toV ad)) = tk_lv ad vals) (h : tk_G own cc nL ret d 0 vals σ Q) : tk_C y cc nL ret d as σ Q := by
  intro l D cy ad base
  refine tk_ofWF (cc := cc) (maxL := nL) (ret := ret) hy rfl ?_
  intro p e s m args below meth c s₁ B hml hv0
  obtain ⟨rfl, hK, hP, hD, hbs, hN⟩ := hv0
  have hts := atoms_spec (ws := Cond.code y cc nL ret :: wsL_law) B.pre
  have hown : s.vm.findClass y.cls = some m.cls := findClass_of_methodNamed B.named
  have hl := lv_entry (as.map (toV ad)) (n := nL) (hn ad)
  rw [hv ad] at hl
  rw [lg_entry_eq]
  subst ho
  exact h p l e s m _ below meth c D cy ad base s.heap [] _ ⟨B.exec, B.bytes, hml, hown, fun w hw => hts w (List.mem_cons_of_mem _ hw), B.returns, B.notSynchronized⟩ ⟨hK, hP, hD, va_S.rf, hbs, hN⟩ hl
theorem e_J9_floorDiv_7cf53 (d : Nat) (x0 x1 : Int32) {σ : tk_S} {Q : Int32 → tk_S → Prop} (h : g_J9_floorDiv_7cf53 d 0 [(0, aI x0), (1, aI x1)] σ Q) : p_J9_floorDiv_7cf53 d [aI x0, aI x1] σ Q := tk_entryF (by decide +kernel) rfl (fun _ => Nat.le_of_ble_eq_true rfl) (fun _ => rfl) h
theorem s_floorDiv (d : Nat) {a n : Int} (h1 : -1000000 ≤ a) (h2 : a ≤ 1000000) (h3 : 0 < n) (h4 : n ≤ 1000000) (σ : tk_S) (Q : Int32 → tk_S → Prop) (h : Q (iI (a / n)) σ) : p_J9_floorDiv_7cf53 d [aI (iI a), aI (iI n)] σ Q := by
  refine e_J9_floorDiv_7cf53 d _ _ (b_J9_floorDiv_7cf53_0 d _ _ σ Q ⟨fun c => ?_, fun z2 e2 => ?_⟩)
  · have := (iI_eq (b := 0) (by omega) (by omega) (by omega) (by omega)).mp c
    omega
  rw [iI_tdiv (by omega) (by omega) h3 (by omega)] at e2
  have hx : 0 ≤ iI a ^^^ iI n ↔ 0 ≤ a := (xor_nn _ _ ((iI_le (a := 0) (by omega) (by omega) (by omega) (by omega)).mpr (by omega))).trans (iI_le (a := 0) (by omega) (by omega) (by omega) (by omega))
  refine ⟨fun c => ?_, fun c => ?_⟩
  · have ha := hx.mp c
    rw [e2, Int.tdiv_eq_ediv_of_nonneg ha]
    exact h
  · have ha : a < 0 := by
      by_cases q : 0 ≤ a
      · exact absurd (hx.mpr q) c
      · omega
    have et : a.tdiv n = -((-a) / n) := by
      have := Int.neg_tdiv (-a) n
      rw [Int.neg_neg] at this
      rw [this, Int.tdiv_eq_ediv_of_nonneg (by omega)]
    have q1 := div_lo (a := -a) h3
    have q2 := div_hi (a := -a) h3
    have qb : 0 ≤ (-a) / n ∧ (-a) / n ≤ 1000000 := by
      constructor
      · exact Int.ediv_nonneg (by omega) (by omega)
      · exact Int.le_trans (Int.ediv_le_self _ (by omega)) (by omega)
    generalize hg : (-a) / n = q at q1 q2 et qb
    rw [et] at e2
    have em : -q * n = -(q * n) := Int.neg_mul q n
    refine ⟨fun c2 => ?_, fun c2 => ?_⟩
    · rw [e2, iI_mul, em] at c2
      have := (iI_eq (by omega) (by omega) (by omega) (by omega)).mp c2
      rw [div_uq (q := -q) h3 (by omega) (by omega)] at h
      rw [e2]
      exact h
    · rw [e2, iI_mul, em] at c2
      have hne : ¬ -(q * n) = a := fun z => c2 (by rw [z])
      rw [div_uq (q := -q - 1) h3 (by rw [Int.sub_mul, em, Int.one_mul]; omega) (by rw [Int.sub_mul, em, Int.one_mul]; omega)] at h
      rw [e2, show (1 : Int32) = iI 1 from rfl, iI_sub]
      exact h
theorem s_X8_down (d : Nat) {a n : Int} (h1 : -1000000 ≤ a) (h2 : a ≤ 1000000) (h3 : 0 < n) (h4 : n ≤ 1000000) (σ : tk_S) (Q : Int32 → tk_S → Prop) (h : Q (iI (a / n)) σ) : p_X8_down d [aI (iI a), aI (iI n)] σ Q := by
  have hn0 : ¬ iI n = 0 := fun c => by
    have := (iI_eq (b := 0) (by omega) (by omega) (by omega) (by omega)).mp c
    omega
  refine e_X8_down d _ _ (b_X8_down_0 d _ _ σ Q ⟨fun c => ⟨hn0, ?_⟩, fun c => ⟨hn0, ?_⟩⟩)
  · have ha : a < 0 := (iI_lt (b := 0) (by omega) (by omega) (by omega) (by omega)).mp c
    rw [iI_neg, iI_add, show (1 : Int32) = iI 1 from rfl, iI_sub, iI_tdiv (by omega) (by omega) h3 (by omega), Int.tdiv_eq_ediv_of_nonneg (by omega), iI_neg]
    have q1 := div_lo (a := -a + n - 1) h3
    have q2 := div_hi (a := -a + n - 1) h3
    generalize hg : (-a + n - 1) / n = q at q1 q2 ⊢
    have em : -q * n = -(q * n) := Int.neg_mul q n
    rw [div_uq (q := -q) h3 (by omega) (by omega)] at h
    exact h
  · have ha : ¬ a < 0 := fun q => c ((iI_lt (b := 0) (by omega) (by omega) (by omega) (by omega)).mpr q)
    rw [iI_tdiv (by omega) (by omega) h3 (by omega), Int.tdiv_eq_ediv_of_nonneg (by omega)]
    exact h
theorem s_X8_abs (d : Nat) {a : Int} (h1 : -1000000 ≤ a) (h2 : a ≤ 1000000) (σ : tk_S) (Q : Int32 → tk_S → Prop) (h : Q (nI a.natAbs) σ) : p_X8_abs d [aI (iI a)] σ Q := by
  refine e_X8_abs d _ (b_X8_abs_0 d _ σ Q ⟨fun c => ?_, fun c => ?_⟩)
  · have ha := (iI_le (a := 0) (by omega) (by omega) (by omega) (by omega)).mp c
    rw [nI_iI, show ((a.natAbs : Nat) : Int) = a by omega] at h
    exact h
  · have ha : ¬ 0 ≤ a := fun q => c ((iI_le (a := 0) (by omega) (by omega) (by omega) (by omega)).mpr q)
    rw [nI_iI, show ((a.natAbs : Nat) : Int) = -a by omega] at h
    rw [iI_neg]
    exact h
theorem abs_if {a : Int} (h1 : -1000000 ≤ a) (h2 : a ≤ 1000000) : (if 0 ≤ iI a then iI a else 0 - iI a) = nI a.natAbs := by
  have e : (0 : Int32) ≤ iI a ↔ 0 ≤ a := iI_le (a := 0) (by omega) (by omega) (by omega) (by omega)
  by_cases ha : 0 ≤ a
  · rw [if_pos (e.mpr ha), nI_iI, show ((a.natAbs : Nat) : Int) = a by omega]
  · rw [if_neg (fun q => ha (e.mp q)), nI_iI, show ((a.natAbs : Nat) : Int) = 0 - a by omega, show (0 : Int32) = iI 0 from rfl, iI_sub]
theorem max_if {m n : Nat} (h1 : m < 2 ^ 31) (h2 : n < 2 ^ 31) : (if nI m < nI n then nI n else nI m) = nI (max m n) := by
  by_cases h : m < n
  · rw [if_pos ((lt_nI h1 h2).mpr h), Nat.max_eq_right (by omega)]
  · rw [if_neg (fun q => h ((lt_nI h1 h2).mp q)), Nat.max_eq_left (by omega)]
