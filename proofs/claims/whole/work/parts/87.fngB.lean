/-! THE FINGER by the class: the facts of a thing, and all things -/
/-- the numbers of the thing p, as far as the pins below m tell -/
def facI (u : Nat → Nat → Nat) (p m : Nat) (σ : tk_S) (K : Nat) : Prop := ∃ v1 v2 v3 v4 : Nat, σ.1 K 0 = nI (cnt (fun q => pB (ofT u p q)) 576) ∧ σ.1 K 1 = nI v1 ∧ σ.1 K 2 = nI v2 ∧ σ.1 K 3 = nI v3 ∧ σ.1 K 4 = nI v4 ∧ σ.1 K 5 = nI (cnt (fun q => pB (ofT u p q ∧ besN u q = 1)) m) ∧ v1 ≤ 24 ∧ v2 ≤ 24 ∧ v3 ≤ 24 ∧ v4 ≤ 24 ∧ (∀ q, q < m → ofT u p q → v1 ≤ q % 24 ∧ v2 ≤ q / 24 ∧ q % 24 ≤ v3 ∧ q / 24 ≤ v4) ∧ (v1 = 24 ∨ ∃ q, ofT u p q ∧ q % 24 = v1) ∧ (v2 = 24 ∨ ∃ q, ofT u p q ∧ q / 24 = v2) ∧ (v3 = 0 ∨ ∃ q, ofT u p q ∧ q % 24 = v3) ∧ (v4 = 0 ∨ ∃ q, ofT u p q ∧ q / 24 = v4)
theorem of_lt {u : Nat → Nat → Nat} {p q : Nat} (h : ofT u p q) : q % 24 < 24 ∧ q / 24 < 24 ∧ q < 576 := by
  have := (join_ends h).2
  have h1 := this.1
  have h2 := this.2.1
  exact ⟨h1, h2, by omega⟩
theorem fac_end {u : Nat → Nat → Nat} {p : Nat} {σ : tk_S} {K : Nat} (hp : upP u (p % 24) (p / 24)) (hp5 : p < 576) (h : facI u p 576 σ K) : ∀ w, w < 6 → ∃ v, σ.1 K w = nI v ∧ isFact u p w v := by
  obtain ⟨v1, v2, v3, v4, c0, c1, c2, c3, c4, c5, l1, l2, l3, l4, al, a1, a2, a3, a4⟩ := h
  have self := al p hp5 (join_rf hp)
  have o : ofT u p p := join_rf hp
  have pl := of_lt o
  intro w hw
  have cs : w = 0 ∨ w = 1 ∨ w = 2 ∨ w = 3 ∨ w = 4 ∨ w = 5 := by omega
  rcases cs with rfl | rfl | rfl | rfl | rfl | rfl
  · exact ⟨_, c0, Or.inl ⟨rfl, rfl⟩⟩
  · refine ⟨_, c1, Or.inr (Or.inl ⟨rfl, a1.resolve_left (by omega), fun q hq => (al q (of_lt hq).2.2 hq).1⟩)⟩
  · refine ⟨_, c2, Or.inr (Or.inr (Or.inl ⟨rfl, a2.resolve_left (by omega), fun q hq => (al q (of_lt hq).2.2 hq).2.1⟩))⟩
  · refine ⟨_, c3, Or.inr (Or.inr (Or.inr (Or.inl ⟨rfl, ?_, fun q hq => (al q (of_lt hq).2.2 hq).2.2.1⟩)))⟩
    rcases a3 with z | z
    · exact ⟨p, o, by omega⟩
    · exact z
  · refine ⟨_, c4, Or.inr (Or.inr (Or.inr (Or.inr (Or.inl ⟨rfl, ?_, fun q hq => (al q (of_lt hq).2.2 hq).2.2.2⟩))))⟩
    rcases a4 with z | z
    · exact ⟨p, o, by omega⟩
    · exact z
  · exact ⟨_, c5, Or.inr (Or.inr (Or.inr (Or.inr (Or.inr ⟨rfl, rfl⟩))))⟩
theorem fac_no {u : Nat → Nat → Nat} {p m : Nat} {σ : tk_S} {K : Nat} (hn : ¬ ofT u p m) (h : facI u p m σ K) : facI u p (m + 1) σ K := by
  obtain ⟨v1, v2, v3, v4, c0, c1, c2, c3, c4, c5, l1, l2, l3, l4, al, a⟩ := h
  refine ⟨v1, v2, v3, v4, c0, c1, c2, c3, c4, ?_, l1, l2, l3, l4, fun q hq ho => ?_, a⟩
  · rw [c5]
    congr 1
    show _ = cnt (fun q => pB (ofT u p q ∧ besN u q = 1)) m + (if pB (ofT u p m ∧ besN u m = 1) then 1 else 0)
    rw [pB_f.mpr (fun q => hn q.1)]; rfl
  · by_cases e : q = m
    · subst e; exact absurd ho hn
    · exact al q (by omega) ho
theorem fac_skip {u : Nat → Nat → Nat} {p : Nat} {σ : tk_S} {K : Nat} : ∀ n m, (∀ q, m ≤ q → q < m + n → ¬ ofT u p q) → facI u p m σ K → facI u p (m + n) σ K := by
  intro n
  induction n with
  | zero => intro m _ h; exact h
  | succ n ih => intro m hn h; exact fac_no (hn (m + n) (by omega) (by omega)) (ih m (fun q h1 h2 => hn q h1 (by omega)) h)
theorem min_if {m n : Nat} (h1 : m < 2 ^ 31) (h2 : n < 2 ^ 31) : (if nI m < nI n then nI m else nI n) = nI (min m n) := by
  by_cases h : m < n
  · rw [if_pos ((lt_nI h1 h2).mpr h), Nat.min_eq_left (by omega)]
  · rw [if_neg (fun q => h ((lt_nI h1 h2).mp q)), Nat.min_eq_right (by omega)]
theorem row_z {σ : tk_S} {K : Nat} {S : Nat → Nat → Prop} (h : xrow σ K S) {y : Nat} (hy : y < 24) (hz : σ.1 K y = 0) : ∀ x, x < 24 → ¬ S x y := fun x hx q => by
  have := h x y hy
  rw [hz, b_0, pB_t.mpr ⟨hx, q⟩] at this
  cases this
set_option maxHeartbeats 2000000 in
theorem s_describe (d : Nat) (u : Nat → Nat → Nat) (p : Nat) (hp : p < 576) (hu : upP u (p % 24) (p / 24)) (i : Nat) (hi : i < 12) (σ : tk_S) (hT : xrow σ 58 (joinP u (p % 24) (p / 24))) (Q : tk_S → Prop) (h : ∀ σ', Fr (frK (60 + i)) σ σ' → σ'.2 = σ.2 → (∀ w, w < 6 → ∃ v, σ'.1 (60 + i) w = nI v ∧ isFact u p w v) → Q σ') : p_X0_describe (d + 2) [aN 54, aN (60 + i)] σ Q := by
  have sh : tk_sh (60 + i) = tk_ia 6 := by
    have t : ∀ i, i < 12 → tk_sh (60 + i) = tk_ia 6 := by decide +kernel
    exact t i hi
  have k0 : (0 : Int32).toNatClampNeg = 0 := rfl
  have k1 : (1 : Int32).toNatClampNeg = 1 := rfl
  have k2 : (2 : Int32).toNatClampNeg = 2 := rfl
  have k3 : (3 : Int32).toNatClampNeg = 3 := rfl
  have k4 : (4 : Int32).toNatClampNeg = 4 := rfl
  have k5 : (5 : Int32).toNatClampNeg = 5 := rfl
  refine e_X0_describe (d + 2) _ (b_X0_describe_0 (d + 1) _ sh σ Q ?_)
  refine s_X2_size d 57 rfl _ σ hT _ (fun σ4 e4 σ5 e5 σ6 e6 => ?_)
  rw [k0, k1] at e4
  rw [k2, k3] at e5
  rw [k4, k5] at e6
  have rd6 : ∀ k j, k ≠ 60 + i → σ6.1 k j = σ.1 k j := fun k j hk => by rw [e6, rd_o (by omega), rd_o (by omega), e5, rd_o (by omega), rd_o (by omega), e4, rd_o (by omega), rd_o (by omega)]
  have f6 : Fr (frK (60 + i)) σ σ6 := fun k j hk => rd6 k j hk
  have I6 : facI u p 0 σ6 (60 + i) := by
    refine ⟨24, 24, 0, 0, ?_, ?_, ?_, ?_, ?_, ?_, by omega, by omega, by omega, by omega, fun q hq => by omega, Or.inl rfl, Or.inl rfl, Or.inl rfl, Or.inl rfl⟩
    · rw [e6, rd_o (by omega), rd_o (by omega), e5, rd_o (by omega), rd_o (by omega), e4, rd_o (by omega), rd_s]; rfl
    · rw [e6, rd_o (by omega), rd_o (by omega), e5, rd_o (by omega), rd_o (by omega), e4, rd_s]; rfl
    · rw [e6, rd_o (by omega), rd_o (by omega), e5, rd_o (by omega), rd_s]; rfl
    · rw [e6, rd_o (by omega), rd_o (by omega), e5, rd_s]; rfl
    · rw [e6, rd_o (by omega), rd_s]; rfl
    · rw [e6, rd_s]; rfl
  have L := up_loop (fun y => ∀ σ1, Fr (frK (60 + i)) σ σ1 → σ1.2 = σ.2 → facI u p (24 * y) σ1 (60 + i) → g_X0_describe (d + 2) 34 [(0, aN 54), (1, aN (60 + i)), (2, aI (nI y))] σ1 Q) 24 ?_ ?_
  · exact L σ6 f6 (by rw [e6, e5, e4]; rfl) I6
  · intro σ1 f1 g1 I1
    exact b_X0_describe_34 (d + 1) _ sh _ σ1 Q ⟨fun _ => h σ1 f1 g1 (fac_end hu hp I1), fun z => absurd (by decide) z⟩
  · intro y hy ihy σ1 f1 g1 I1
    refine b_X0_describe_34 (d + 1) _ sh _ σ1 Q ⟨fun z => absurd ((le_nI (n := 24) (by omega) (by omega)).mp z) (by omega), fun _ => ?_⟩
    have L2 := up_loop (fun x => ∀ σ2, Fr (frK (60 + i)) σ σ2 → σ2.2 = σ.2 → facI u p (24 * y + x) σ2 (60 + i) → g_X0_describe (d + 2) 42 [(0, aN 54), (1, aN (60 + i)), (2, aI (nI y)), (3, aI (nI x))] σ2 Q) 24 ?_ ?_
    · exact L2 σ1 f1 g1 I1
    · intro σ2 f2 g2 I2
      refine b_X0_describe_42 (d + 1) _ sh _ _ σ2 Q ⟨fun _ => ?_, fun z => absurd (by decide) z⟩
      rw [nI_1]
      exact ihy σ2 f2 g2 I2
    · intro x hx ihx σ2 f2 g2 I2
      have hT2 : xrow σ2 58 (joinP u (p % 24) (p / 24)) := fun x y hy => by rw [f2 58 y (by unfold frK; omega)]; exact hT x y hy
      refine b_X0_describe_42 (d + 1) _ sh _ _ σ2 Q ⟨fun z => absurd ((le_nI (n := 24) (by omega) (by omega)).mp z) (by omega), fun _ => ⟨vp_in_nI hy (by omega), ?_⟩⟩
      rw [nI_clamp (by omega), nI_1, nI_1]
      refine ⟨fun z => ihy σ2 f2 g2 ?_, fun _ => ?_⟩
      · have nz := row_z hT2 hy z
        have := fac_skip (24 - x) (24 * y + x) (fun q h1 h2 ho => nz (q % 24) (by omega) (by
          have e : q / 24 = y := by omega
          have ho : joinP u (p % 24) (p / 24) (q % 24) (q / 24) := ho
          rw [e] at ho
          exact ho)) I2
        rw [show 24 * y + x + (24 - x) = 24 * (y + 1) by omega] at this
        exact this
      · refine s_X2_holds d 57 rfl hx hy σ2 _ ?_
        rw [hT2 x y hy]
        obtain ⟨i1, i2, i3⟩ := pin_ix hx hy
        refine ⟨fun z => ihx σ2 f2 g2 (fac_no (fun ho => pB_f.mp (b2i_0.mp z) ⟨hx, ?_⟩) I2), fun z σ8 e8 σ9 e9 => ?_⟩
        · have ho : joinP u (p % 24) (p / 24) ((24 * y + x) % 24) ((24 * y + x) / 24) := ho
          rw [i1, i2] at ho; exact ho
        · have ho : ofT u p (24 * y + x) := by
            show joinP u (p % 24) (p / 24) ((24 * y + x) % 24) ((24 * y + x) / 24)
            rw [i1, i2]; exact (pB_t.mp (b2i_n.mp z)).2
          obtain ⟨v1, v2, v3, v4, c0, c1, c2, c3, c4, c5, l1, l2, l3, l4, al, a1, a2, a3, a4⟩ := I2
          rw [k1, k2, c1, rd_o (by omega), c2, min_if (by omega) (by omega), min_if (by omega) (by omega)] at e8
          have c3' : σ8.1 (60 + i) 3 = nI v3 := by rw [e8, rd_o (by omega), rd_o (by omega)]; exact c3
          have c4' : σ8.1 (60 + i) 4 = nI v4 := by rw [e8, rd_o (by omega), rd_o (by omega)]; exact c4
          rw [k3, k4, c3', rd_o (by omega), c4', max_if (by omega) (by omega), max_if (by omega) (by omega)] at e9
          have c5' : σ9.1 (60 + i) 5 = nI (cnt (fun q => pB (ofT u p q ∧ besN u q = 1)) (24 * y + x)) := by rw [e9, rd_o (by omega), rd_o (by omega), e8, rd_o (by omega), rd_o (by omega)]; exact c5
          have f9 : Fr (frK (60 + i)) σ σ9 := f2.tr (by rw [e9, e8]; exact (((Fr.up σ2 (P := frK (60 + i)) _ rfl).tr (Fr.up _ _ rfl)).tr (Fr.up _ _ rfl)).tr (Fr.up _ _ rfl))
          have hT9 : xrow σ9 58 (joinP u (p % 24) (p / 24)) := fun x y hy => by rw [f9 58 y (by unfold frK; omega)]; exact hT x y hy
          have fin : ∀ b : Nat, b = cnt (fun q => pB (ofT u p q ∧ besN u q = 1)) (24 * y + x + 1) → g_X0_describe (d + 2) 42 [(0, aN 54), (1, aN (60 + i)), (2, aI (nI y)), (3, aI (nI (x + 1)))] (tk_up σ9 (60 + i) 5 (nI b)) Q := by
            intro b hb
            refine ihx _ (f9.tr (Fr.up _ _ rfl)) (by rw [e9, e8]; exact g2) ⟨min x v1, min y v2, max v3 x, max v4 y, ?_, ?_, ?_, ?_, ?_, ?_, by omega, by omega, by omega, by omega, fun q hq hoq => ?_, ?_, ?_, ?_, ?_⟩
            · rw [rd_o (by omega), e9, rd_o (by omega), rd_o (by omega), e8, rd_o (by omega), rd_o (by omega)]; exact c0
            · rw [rd_o (by omega), e9, rd_o (by omega), rd_o (by omega), e8, rd_o (by omega), rd_s]
            · rw [rd_o (by omega), e9, rd_o (by omega), rd_o (by omega), e8, rd_s]
            · rw [rd_o (by omega), e9, rd_o (by omega), rd_s]
            · rw [rd_o (by omega), e9, rd_s]
            · rw [rd_s, hb]; rfl
            · by_cases e : q = 24 * y + x
              · subst e; omega
              · have := al q (by omega) hoq; omega
            · rcases Nat.lt_or_ge x v1 with w | w
              · exact Or.inr ⟨24 * y + x, ho, by omega⟩
              · rw [Nat.min_eq_right w]; exact a1
            · rcases Nat.lt_or_ge y v2 with w | w
              · exact Or.inr ⟨24 * y + x, ho, by omega⟩
              · rw [Nat.min_eq_right w]; exact a2
            · rcases Nat.lt_or_ge v3 x with w | w
              · exact Or.inr ⟨24 * y + x, ho, by omega⟩
              · rw [Nat.max_eq_left w]; exact a3
            · rcases Nat.lt_or_ge v4 y with w | w
              · exact Or.inr ⟨24 * y + x, ho, by omega⟩
              · rw [Nat.max_eq_left w]; exact a4
          refine s_countBeside d _ hx hy σ9 hT9 _ ?_
          have be := bes_eq (u := u) (p := p) (q := 24 * y + x) i3 ho
          rw [i1, i2] at be
          rw [be, k5, c5', show (((besN u (24 * y + x) + 1 : Nat) : Int) - 1) = (besN u (24 * y + x) : Int) by omega, ← nI_iI]
          have bl := cnt_n (fun r => pB (r ≠ 24 * y + x ∧ besideP ((24 * y + x) % 24) ((24 * y + x) / 24) (r % 24) (r / 24) ∧ upP u (r % 24) (r / 24))) 576
          have bl : besN u (24 * y + x) ≤ 576 := bl
          rw [show (1 : Int32) = nI 1 from rfl, nI_eq (by omega) (by omega)]
          have st : ∀ b, pB (ofT u p (24 * y + x) ∧ besN u (24 * y + x) = 1) = b → cnt (fun q => pB (ofT u p q ∧ besN u q = 1)) (24 * y + x + 1) = cnt (fun q => pB (ofT u p q ∧ besN u q = 1)) (24 * y + x) + (if b then 1 else 0) := fun b hb => by
            show cnt (fun q => pB (ofT u p q ∧ besN u q = 1)) (24 * y + x) + (if pB (ofT u p (24 * y + x) ∧ besN u (24 * y + x) = 1) then 1 else 0) = _
            rw [hb]
          refine ⟨fun w => ?_, fun w => ?_⟩
          · rw [show nI (cnt (fun q => pB (ofT u p q ∧ besN u q = 1)) (24 * y + x)) + 0 = nI (cnt (fun q => pB (ofT u p q ∧ besN u q = 1)) (24 * y + x) + 0) from nI_add _ 0]
            exact fin _ (st false (pB_f.mpr (fun q => w q.2))).symm
          · rw [nI_add]
            exact fin _ (st true (pB_t.mpr ⟨ho, w⟩)).symm
/-- all that was found ahead of pin m -/
def feelI (u : Nat → Nat → Nat) (m : Nat) (σ : tk_S) : Prop := xrow σ 56 (leftS u m) ∧ σ.1 54 3 = nI (cnt (fun q => pB (firstP u q)) m) ∧ ∀ i p, thingP u i p → p < m → ∀ w, w < 6 → ∃ v, σ.1 (60 + i) w = nI v ∧ isFact u p w v
theorem feel_no {u : Nat → Nat → Nat} {m : Nat} {σ : tk_S} (hn : ¬ firstP u m) (h : feelI u m σ) : feelI u (m + 1) σ := by
  refine ⟨h.1.c (fun x y _ _ => (left_no hn x y).symm), ?_, fun i p ht hp => ?_⟩
  · rw [h.2.1]
    congr 1
    show _ = cnt (fun q => pB (firstP u q)) m + (if pB (firstP u m) then 1 else 0)
    rw [pB_f.mpr hn]; rfl
  · by_cases e : p = m
    · subst e; exact absurd ht.2.1 hn
    · exact h.2.2 i p ht (by omega)
theorem feel_skip {u : Nat → Nat → Nat} {σ : tk_S} : ∀ n m, (∀ q, m ≤ q → q < m + n → ¬ leftS u m (q % 24) (q / 24)) → feelI u m σ → feelI u (m + n) σ := by
  intro n
  induction n with
  | zero => intro m _ h; exact h
  | succ n ih =>
    intro m hn h
    refine feel_no (m := m + n) (fun hf : firstP u (m + n) => hn (m + n) (by omega) (by omega) ⟨hf.1, fun q hq => hf.2 q (by omega)⟩) (ih m (fun q h1 h2 => hn q h1 (by omega)) h)
set_option maxHeartbeats 1000000 in
theorem s_feel (d : Nat) (u : Nat → Nat → Nat) (hN : thingN u ≤ 12) (σ : tk_S) (hU : xrow σ 53 (upP u)) (Q : tk_S → Prop) (h : ∀ σ', Fr (fun k _ => 54 ≤ k ∧ k ≤ 71) σ σ' → σ'.2 = σ.2 → XF u σ' → Q σ') : p_X0_feel (d + 4) [aN 54, aN 52] σ Q := by
  refine e_X0_feel (d + 4) (b_X0_feel_0 (d + 3) σ Q ?_)
  refine s_X2_copy (d + 3) 55 52 rfl rfl σ _ ?_
  generalize e1 : tk_up (tk_fill σ (55 + 1) 24 (fun j => σ.1 (52 + 1) j)) 54 3 0 = σ1
  have f1 : Fr (fun k _ => 54 ≤ k ∧ k ≤ 71) σ σ1 := by
    rw [← e1]
    exact (Fr.fill σ _ (fun j => by omega)).tr (Fr.up _ _ (by omega))
  have I1 : feelI u 0 σ1 := by
    refine ⟨fun x y hy => ?_, by rw [← e1, rd_s]; rfl, fun i p _ hp => by omega⟩
    rw [← e1, rd_o (by omega), tk_fill_s]
    show bt (if y < 24 then σ.1 53 y else σ.1 56 y) x = _
    rw [if_pos hy, hU x y hy]
    exact pB_c ⟨fun q => ⟨q.1, q.2, fun r hr => by omega⟩, fun q => ⟨q.1, q.2.1⟩⟩
  have L := up_loop (fun y => ∀ σ2, Fr (fun k _ => 54 ≤ k ∧ k ≤ 71) σ σ2 → σ2.2 = σ.2 → feelI u (24 * y) σ2 → g_X0_feel (d + 4) 15 [(0, aN 54), (2, aI (nI y))] σ2 Q) 24 ?_ ?_
  · exact L σ1 f1 (by rw [← e1]; rfl) I1
  · intro σ2 f2 g2 I2
    exact b_X0_feel_15 (d + 3) _ σ2 Q ⟨fun _ => h σ2 f2 g2 ⟨hN, I2.2.1, fun i p ht => I2.2.2 i p ht ht.1⟩, fun z => absurd (by decide) z⟩
  · intro y hy ihy σ2 f2 g2 I2
    refine b_X0_feel_15 (d + 3) _ σ2 Q ⟨fun z => absurd ((le_nI (n := 24) (by omega) (by omega)).mp z) (by omega), fun _ => ?_⟩
    have L2 := up_loop (fun x => ∀ σ3, Fr (fun k _ => 54 ≤ k ∧ k ≤ 71) σ σ3 → σ3.2 = σ.2 → feelI u (24 * y + x) σ3 → g_X0_feel (d + 4) 23 [(0, aN 54), (2, aI (nI y)), (3, aI (nI x))] σ3 Q) 24 ?_ ?_
    · exact L2 σ2 f2 g2 I2
    · intro σ3 f3 g3 I3
      refine b_X0_feel_23 (d + 3) _ _ σ3 Q ⟨fun _ => ?_, fun z => absurd (by decide) z⟩
      rw [nI_1]
      exact ihy σ3 f3 g3 I3
    · intro x hx ihx σ3 f3 g3 I3
      obtain ⟨i1, i2, i3⟩ := pin_ix hx hy
      refine b_X0_feel_23 (d + 3) _ _ σ3 Q ⟨fun z => absurd ((le_nI (n := 24) (by omega) (by omega)).mp z) (by omega), fun _ => ⟨vp_in_nI hy (by omega), ?_⟩⟩
      rw [nI_clamp (by omega), nI_1, nI_1]
      refine ⟨fun z => ihy σ3 f3 g3 ?_, fun _ => ?_⟩
      · have nz := row_z I3.1 hy z
        have := feel_skip (24 - x) (24 * y + x) (fun q h1 h2 hl => nz (q % 24) (by omega) (by
          have e : q / 24 = y := by omega
          rw [e] at hl
          exact hl)) I3
        rw [show 24 * y + x + (24 - x) = 24 * (y + 1) by omega] at this
        exact this
      · refine s_X2_holds (d + 2) 55 rfl hx hy σ3 _ ?_
        rw [I3.1 x y hy]
        refine ⟨fun z => ihx σ3 f3 g3 (feel_no (fun hf => pB_f.mp (b2i_0.mp z) ⟨hx, ?_⟩) I3), fun z => ?_⟩
        · have hf : leftS u (24 * y + x) ((24 * y + x) % 24) ((24 * y + x) / 24) := left_first.mpr hf
          rw [i1, i2] at hf; exact hf
        · have hf : firstP u (24 * y + x) := by
            rw [← left_first, i1, i2]; exact (pB_t.mp (b2i_n.mp z)).2
          have lt : cnt (fun q => pB (firstP u q)) (24 * y + x) < thingN u := cnt_lt i3 (pB_t.mpr hf)
          rw [I3.2.1]
          refine ⟨fun q => absurd ((le_nI (n := 12) (by omega) (by omega)).mp q) (by omega), fun _ => ?_⟩
          have eg := s_gather d u (24 * y + x) i3 hf σ3 I3.1
          rw [i1, i2] at eg
          refine eg _ (fun σ4 f4 g4 r4 => ?_)
          have c4 : σ4.1 54 3 = nI (cnt (fun q => pB (firstP u q)) (24 * y + x)) := by rw [f4 _ _ (by unfold frK; omega)]; exact I3.2.1
          rw [c4, nI_clamp (by omega), show 59 + 1 + 1 * cnt (fun q => pB (firstP u q)) (24 * y + x) = 60 + cnt (fun q => pB (firstP u q)) (24 * y + x) by omega]
          refine ⟨vp_in_nI (by omega) (by omega), ?_⟩
          refine s_describe (d + 1) u (24 * y + x) i3 hf.1 _ (by omega) σ4 (by rw [i1, i2]; exact r4) _ (fun σ5 f5 g5 t5 => ?_)
          refine s_X2_drop (d + 3) 55 57 rfl rfl σ5 _ ?_
          have l5 : xrow σ5 56 (leftS u (24 * y + x)) := fun x' y' hy' => by rw [f5 _ _ (by unfold frK; omega), f4 _ _ (by unfold frK; omega)]; exact I3.1 x' y' hy'
          have r5 : xrow σ5 58 (joinP u x y) := fun x' y' hy' => by rw [f5 _ _ (by unfold frK; omega)]; exact r4 x' y' hy'
          have r6 := xrow_drop l5 r5
          generalize e6 : tk_fill σ5 (55 + 1) 24 (fun j => σ5.1 (55 + 1) j &&& (σ5.1 (57 + 1) j ^^^ (-1))) = σ6
          have r6 : xrow σ6 56 (fun x' y' => leftS u (24 * y + x) x' y' ∧ ¬ joinP u x y x' y') := by rw [← e6]; exact r6
          have rd6 : ∀ k j, k ≠ 56 → σ6.1 k j = σ5.1 k j := fun k j hk => by rw [← e6, tk_fill_o _ _ _ hk]
          have c6 : σ6.1 54 3 = nI (cnt (fun q => pB (firstP u q)) (24 * y + x)) := by rw [rd6 _ _ (by omega), f5 _ _ (by unfold frK; omega)]; exact c4
          rw [c6, nI_1]
          have ec : cnt (fun q => pB (firstP u q)) (24 * y + x + 1) = cnt (fun q => pB (firstP u q)) (24 * y + x) + 1 := by
            show cnt (fun q => pB (firstP u q)) (24 * y + x) + (if pB (firstP u (24 * y + x)) then 1 else 0) = _
            rw [pB_t.mpr hf]; rfl
          refine ihx _ (fun k j hk => ?_) (by rw [← e6]; exact g5.trans (g4.trans g3)) ⟨fun x' y' hy' => ?_, by rw [rd_s, ← ec]; rfl, fun i' p' ht hp' w hw => ?_⟩
          · rw [rd_o (by omega), rd6 _ _ (by omega), f5 _ _ (by unfold frK; omega), f4 _ _ (by unfold frK; omega)]; exact f3 k j hk
          · rw [rd_o (by omega), r6 x' y' hy']
            refine pB_c ⟨fun q => ⟨q.1, ?_⟩, fun q => ⟨q.1, ?_⟩⟩
            · have := (left_yes (u := u) (p := 24 * y + x) x' y').mpr
              rw [i1, i2] at this
              exact this q.2
            · have := (left_yes (u := u) (p := 24 * y + x) x' y').mp
              rw [i1, i2] at this
              exact this q.2
          · have hi' : i' < thingN u := by rw [← ht.2.2]; exact cnt_lt ht.1 (pB_t.mpr ht.2.1)
            rw [rd_o (by omega), rd6 _ _ (by omega)]
            by_cases e : p' = 24 * y + x
            · subst e
              rw [← ht.2.2]
              exact t5 w hw
            · have ne : i' ≠ cnt (fun q => pB (firstP u q)) (24 * y + x) := fun v => by
                have := cnt_lt (p := fun q => pB (firstP u q)) (m := p') (n := 24 * y + x) (by omega) (pB_t.mpr ht.2.1)
                have e2 := ht.2.2
                omega
              rw [f5 _ _ (by unfold frK; omega), f4 _ _ (by unfold frK; omega)]
              exact I3.2.2 i' p' ht (by omega) w hw
