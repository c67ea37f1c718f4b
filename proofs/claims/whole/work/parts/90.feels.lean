/-! THE FINGER by the reference -/
def fr11 : Nat → Nat → Prop := fun k j => (k = 132 ∧ j = 25) ∨ k = 151 ∨ k = 152
def lab (u : Nat → Nat → Nat) (m q : Nat) (v : Int32) : Prop := (∃ f, f < m ∧ firstP u f ∧ ofT u f q ∧ v = nI (cnt (fun q => pB (firstP u q)) f)) ∨ ((∀ f, f < m → firstP u f → ¬ ofT u f q) ∧ v = -1)
theorem lab_no {u : Nat → Nat → Nat} {m q : Nat} {v : Int32} (hn : ¬ firstP u m) (h : lab u m q v) : lab u (m + 1) q v := by
  rcases h with ⟨f, f1, f2⟩ | ⟨h1, h2⟩
  · exact Or.inl ⟨f, by omega, f2⟩
  · refine Or.inr ⟨fun f hf hfi => ?_, h2⟩
    by_cases e : f = m
    · subst e; exact absurd hfi hn
    · exact h1 f (by omega) hfi
/-- the row of those found: all of the thing p, each once -/
def bfs (u : Nat → Nat → Nat) (p : Nat) (T : Nat) (old : Nat → Int32) (B : Nat → Bool) (many : Nat) (σ : tk_S) : Prop := B p = true ∧ (∀ q, B q = true → q < 576 ∧ ofT u p q) ∧ (∀ q, q < 576 → σ.1 151 q = if B q = true then nI T else old q) ∧ many = cnt B 576 ∧ (∀ j, j < many → ∃ q, σ.1 152 j = nI q ∧ B q = true) ∧ ∀ q, B q = true → ∃ j, j < many ∧ σ.1 152 j = nI q
def doneB (u : Nat → Nat → Nat) (B : Nat → Bool) (k : Nat) (σ : tk_S) : Prop := ∀ j, j < k → ∀ q, q < 576 → σ.1 152 j = nI q → ∀ r, r < 576 → upP u (r % 24) (r / 24) → besideP (q % 24) (q / 24) (r % 24) (r / 24) → B r = true
def addB (B : Nat → Bool) (r : Nat) : Nat → Bool := fun q => B q || decide (q = r)
theorem cnt_addB {B : Nat → Bool} {r : Nat} (hr : r < 576) (h : B r = false) : cnt (addB B r) 576 = cnt B 576 + 1 := by
  rw [cnt_wout (addB B r) r (by unfold addB; simp) 576 hr]
  have e : wout (addB B r) r = B := by
    funext q
    unfold wout addB
    by_cases z : q = r
    · subst z; simp [h]
    · simp [z]
  rw [e]
theorem rem3 (p : Nat) (hp : p < 2 ^ 31) : nI p - nI p / 3 * 3 = nI (p % 3) := pk_rem (d := 3) hp (by omega) (by omega)
theorem div3 (p : Nat) (hp : p < 2 ^ 31) : nI p / 3 = nI (p / 3) := pk_div (d := 3) hp (by omega) (by omega)
theorem off_e (m n : Nat) : nI m + nI n - 1 = iI ((m : Int) + n - 1) := by rw [nI_add, nI_iI, show (1 : Int32) = iI 1 from rfl, iI_sub]; congr 1
set_option maxHeartbeats 2000000 in
theorem s_bfs (d : Nat) (u : Nat → Nat → Nat) (hu1 : ∀ x y, u x y ≤ 1) (p : Nat) (hp : p < 576) (hf : firstP u p) (T : Nat) (hT : T < 576) (σ : tk_S) (hU : ∀ q, q < 576 → σ.1 150 q = nI (u (q % 24) (q / 24))) (old : Nat → Int32) (ho : ∀ q, q < 576 → lab u p q (old q)) (h25 : σ.1 132 25 = nI T) (Q : tk_S → Prop) (h : ∀ σ', Fr (fun k _ => k = 151 ∨ k = 152) σ σ' → σ'.2 = σ.2 → (∀ q, q < 576 → σ'.1 151 q = if pB (ofT u p q) = true then nI T else old q) → g_X8_feels (d + 2) 29 [(0, aN 132), (1, aI (nI p + 1))] (tk_up σ' 132 25 (nI T + 1)) Q) : ∀ k, k ≤ 576 → ∀ σ1 B many, Fr (fun k _ => k = 151 ∨ k = 152) σ σ1 → σ1.2 = σ.2 → bfs u p T old B many σ1 → doneB u B k σ1 → g_X8_feels (d + 2) 79 [(0, aN 132), (1, aI (nI p)), (2, aI (nI many)), (3, aI (nI k))] σ1 Q := by
  have fin : ∀ k σ1 B many, many ≤ k → k ≤ 576 → Fr (fun k _ => k = 151 ∨ k = 152) σ σ1 → σ1.2 = σ.2 → bfs u p T old B many σ1 → doneB u B k σ1 → g_X8_feels (d + 2) 29 [(0, aN 132), (1, aI (nI p + 1))] (tk_up σ1 132 25 (nI T + 1)) Q := by
    intro k σ1 B many hmk hk f1 g1 b1 d1
    obtain ⟨c1, c2, c3, c4, c5, c6⟩ := b1
    have cl : ∀ n x' y', walkP u (p % 24) (p / 24) n x' y' → B (24 * y' + x') = true := by
      intro n
      induction n with
      | zero => rintro x' y' ⟨_, rfl, rfl⟩; rw [show 24 * (p / 24) + p % 24 = p by omega]; exact c1
      | succ n ih =>
        rintro x' y' ⟨x2, y2, w1, w2, w3⟩
        have hb := ih x2 y2 w1
        have up2 := (walk_ends _ _ _ w1).2
        obtain ⟨j, j1, j2⟩ := c6 _ hb
        obtain ⟨i1, i2, i3⟩ := pin_ix up2.1 up2.2.1
        obtain ⟨e1, e2, e3⟩ := pin_ix w3.1 w3.2.1
        refine d1 j (by omega) _ i3 j2 _ e3 (by rw [e1, e2]; exact w3) (by rw [i1, i2, e1, e2]; exact w2)
    refine h σ1 f1 g1 (fun q hq => ?_)
    rw [c3 q hq]
    have e : B q = pB (ofT u p q) := by
      cases z : B q
      · symm; rw [pB_f]
        rintro ⟨n, w⟩
        have := cl n _ _ w
        rw [show 24 * (q / 24) + q % 24 = q by omega, z] at this; cases this
      · exact (pB_t.mpr (c2 q z).2).symm
    rw [e]
  intro k hk
  refine up_from (fun k => ∀ σ1 B many, Fr (fun k _ => k = 151 ∨ k = 152) σ σ1 → σ1.2 = σ.2 → bfs u p T old B many σ1 → doneB u B k σ1 → g_X8_feels (d + 2) 79 [(0, aN 132), (1, aI (nI p)), (2, aI (nI many)), (3, aI (nI k))] σ1 Q) 576 k hk ?_ ?_
  · intro σ1 B many f1 g1 b1 d1
    have hm : many ≤ 576 := by rw [b1.2.2.2.1]; exact cnt_n _ _
    have c25 : σ1.1 132 25 = nI T := by rw [f1 _ _ (by omega)]; exact h25
    refine b_X8_feels_79 (d + 1) _ _ _ σ1 Q ⟨fun _ => ?_, fun z => absurd ((le_nI (by omega) (by omega)).mpr hm) z⟩
    rw [c25]
    exact fin 576 σ1 B many hm (Nat.le_refl _) f1 g1 b1 d1
  · intro k _ hk5 ih σ1 B many f1 g1 b1 d1
    have hm : many ≤ 576 := by rw [b1.2.2.2.1]; exact cnt_n _ _
    have c25 : σ1.1 132 25 = nI T := by rw [f1 _ _ (by omega)]; exact h25
    refine b_X8_feels_79 (d + 1) _ _ _ σ1 Q ⟨fun z => ?_, fun z => ?_⟩
    · rw [c25]
      exact fin k σ1 B many ((le_nI (by omega) (by omega)).mp z) (by omega) f1 g1 b1 d1
    · have hkm : k < many := by
        rcases Nat.lt_or_ge k many with v | v
        · exact v
        · exact absurd ((le_nI (by omega) (by omega)).mpr v) z
      obtain ⟨c, cc1, cc2⟩ := b1.2.2.2.2.1 k hkm
      have cl := b1.2.1 c cc2
      have c576 := cl.1
      have cup := (join_ends cl.2).2
      have L := up_loop (fun dd => ∀ σ2 B many, Fr (fun k _ => k = 151 ∨ k = 152) σ σ2 → σ2.2 = σ.2 → bfs u p T old B many σ2 → doneB u B k σ2 → k < many → σ2.1 152 k = nI c → B c = true → (∀ r, r < 576 → upP u (r % 24) (r / 24) → besideP (c % 24) (c / 24) (r % 24) (r / 24) → 3 * (r / 24 + 1 - c / 24) + (r % 24 + 1 - c % 24) < dd → B r = true) → g_X8_feels (d + 2) 87 [(0, aN 132), (1, aI (nI p)), (2, aI (nI many)), (3, aI (nI k)), (4, aI (nI dd))] σ2 Q) 9 ?_ ?_
      · exact L σ1 B many f1 g1 b1 d1 hkm cc1 cc2 (fun r _ _ _ hr => by omega)
      · intro σ2 B2 m2 f2 g2 b2 d2 km2 ck2 _ hall
        refine b_X8_feels_87 (d + 1) _ _ _ _ σ2 Q ⟨fun _ => ?_, fun z => absurd (by decide) z⟩
        rw [nI_1]
        refine ih σ2 B2 m2 f2 g2 b2 (fun j hj q hq5 hq r hr hup hbs => ?_)
        by_cases e : j = k
        · subst e
          have e2 : q = c := (nI_eq (by omega) (by omega)).mp (hq.symm.trans ck2)
          subst e2
          refine hall r hr hup hbs ?_
          obtain ⟨z1, z2, z3, z4⟩ := hbs
          omega
        · exact d2 j (by omega) q hq5 hq r hr hup hbs
      · intro dd hdd ihd σ2 B2 m2 f2 g2 b2 d2 km2 ck2 bc2 hall
        have hm2 : m2 ≤ 576 := by rw [b2.2.2.2.1]; exact cnt_n _ _
        -- the pin at this place
        have at_ : ∀ r, r < 576 → besideP (c % 24) (c / 24) (r % 24) (r / 24) → (3 * (r / 24 + 1 - c / 24) + (r % 24 + 1 - c % 24) = dd ↔ (r % 24 + 1 = c % 24 + dd % 3 ∧ r / 24 + 1 = c / 24 + dd / 3)) := by
          intro r hr hbs
          obtain ⟨z1, z2, z3, z4⟩ := hbs
          omega
        have skip : (∀ r, r < 576 → upP u (r % 24) (r / 24) → r % 24 + 1 = c % 24 + dd % 3 → r / 24 + 1 = c / 24 + dd / 3 → B2 r = true) → g_X8_feels (d + 2) 87 [(0, aN 132), (1, aI (nI p)), (2, aI (nI m2)), (3, aI (nI k)), (4, aI (nI (dd + 1)))] σ2 Q := by
          intro hs
          refine ihd σ2 B2 m2 f2 g2 b2 d2 km2 ck2 bc2 (fun r hr hup hbs hlt => ?_)
          by_cases e : 3 * (r / 24 + 1 - c / 24) + (r % 24 + 1 - c % 24) = dd
          · have := (at_ r hr hbs).mp e
            exact hs r hr hup this.1 this.2
          · exact hall r hr hup hbs (by omega)
        refine b_X8_feels_87 (d + 1) _ _ _ _ σ2 Q ⟨fun z => absurd ((le_nI (n := 9) (by omega) (by omega)).mp z) (by omega), fun _ => ⟨vp_in_nI (by omega) (by omega), fun z3 e3 => ⟨vp_in_nI (by omega) (by omega), fun z5 e5 => ?_⟩⟩⟩
        rw [nI_clamp (by omega), ck2, rem24 c (by omega), rem3 dd (by omega), off_e] at e3
        rw [nI_clamp (by omega), ck2, div24 c (by omega), div3 dd (by omega), off_e] at e5
        rw [nI_1]
        refine s_X8_isPin d z3 z5 σ2 _ (fun hpin => ⟨fun v => absurd v (by decide), fun _ => ?_⟩) (fun hno => ⟨fun _ => skip (fun r hr hup h1 h2 => ?_), fun v => absurd rfl v⟩)
        · obtain ⟨x', y', hx', hy', ex, ey⟩ := hpin
          have ex2 : (x' : Int) = ((c % 24 : Nat) : Int) + ((dd % 3 : Nat) : Int) - 1 := by
            rw [e3, nI_iI] at ex
            exact ((iI_eq (by omega) (by omega) (by omega) (by omega)).mp ex).symm
          have ey2 : (y' : Int) = ((c / 24 : Nat) : Int) + ((dd / 3 : Nat) : Int) - 1 := by
            rw [e5, nI_iI] at ey
            exact ((iI_eq (by omega) (by omega) (by omega) (by omega)).mp ey).symm
          obtain ⟨i1, i2, i3⟩ := pin_ix hx' hy'
          have uniq : ∀ r, r % 24 + 1 = c % 24 + dd % 3 → r / 24 + 1 = c / 24 + dd / 3 → r = 24 * y' + x' := fun r h1 h2 => by omega
          have hbs : besideP (c % 24) (c / 24) x' y' := ⟨by omega, by omega, by omega, by omega⟩
          rw [ex, ey, ix24, nI_clamp (by omega), f2 150 _ (by omega), hU _ i3, i1, i2]
          have hu := hu1 x' y'
          refine ⟨vp_in_nI i3 (by omega), fun v => skip (fun r hr hup h1 h2 => ?_), fun v => ⟨vp_in_nI i3 (by omega), fun w => ?_, fun w => skip (fun r hr hup h1 h2 => ?_)⟩⟩
          · have v := (nI_eq (b := 0) (by omega) (by omega)).mp v
            rw [uniq r h1 h2, i1, i2] at hup
            have := hup.2.2
            omega
          · -- a new one
            have hup : upP u x' y' := ⟨hx', hy', by
              have : ¬ u x' y' = 0 := fun y => v (by rw [y]; rfl)
              omega⟩
            have nB : B2 (24 * y' + x') = false := by
              cases e : B2 (24 * y' + x')
              · rfl
              · have := b2.2.2.1 _ i3
                rw [e, if_pos rfl, w] at this
                exfalso
                have h0 := nI_pos (n := T) (by omega)
                rw [← this] at h0; exact h0 (by decide)
            have mlt : m2 < 576 := by
              rw [b2.2.2.2.1]
              exact Nat.lt_of_lt_of_le (cnt_sl (p := B2) (q := fun _ => true) (n := 576) (k := 24 * y' + x') (fun _ _ _ => rfl) i3 nB rfl) (cnt_n _ _)
            refine ⟨vp_in_nI i3 (by omega), vp_in_nI mlt (by omega), fun σ3 e3' => ?_⟩
            have c25 : σ2.1 132 25 = nI T := by rw [f2 _ _ (by omega)]; exact h25
            rw [c25, nI_clamp (by omega)] at e3'
            rw [nI_1]
            obtain ⟨q1, q2, q3, q4, q5, q6⟩ := b2
            have r152 : ∀ j, j < m2 → σ3.1 152 j = σ2.1 152 j := fun j hj => by rw [e3', rd_o (by omega), rd_o (by omega)]
            refine ihd σ3 (addB B2 (24 * y' + x')) (m2 + 1) (f2.tr (by rw [e3']; exact (Fr.up _ _ (Or.inl rfl)).tr (Fr.up _ _ (Or.inr rfl)))) (by rw [e3']; exact g2) ⟨by unfold addB; rw [q1]; rfl, fun q hq => ?_, fun q hq => ?_, by rw [cnt_addB i3 nB, q4], fun j hj => ?_, fun q hq => ?_⟩ (fun j hj q hq5 hq r hr hup' hbs' => ?_) (by omega) (by rw [r152 k km2]; exact ck2) (by unfold addB; rw [bc2]; rfl) (fun r hr hup' hbs' hlt => ?_)
            · unfold addB at hq
              rw [Bool.or_eq_true, decide_eq_true_iff] at hq
              rcases hq with z | z
              · exact q2 q z
              · subst z
                refine ⟨i3, ?_⟩
                show joinP u (p % 24) (p / 24) ((24 * y' + x') % 24) ((24 * y' + x') / 24)
                rw [i1, i2]
                exact join_tr (q2 c bc2).2 (join_one cup hup hbs)
            · unfold addB
              rw [e3', rd_o (by omega)]
              by_cases z : q = 24 * y' + x'
              · subst z; rw [rd_s]; simp
              · rw [rd_o (by omega), q3 q hq]; simp [z]
            · by_cases z : j = m2
              · subst z
                exact ⟨24 * y' + x', by rw [e3', rd_s], by unfold addB; simp⟩
              · obtain ⟨q, z1, z2⟩ := q5 j (by omega)
                exact ⟨q, by rw [r152 j (by omega)]; exact z1, by unfold addB; rw [z2]; rfl⟩
            · unfold addB at hq
              rw [Bool.or_eq_true, decide_eq_true_iff] at hq
              rcases hq with z | z
              · obtain ⟨j, j1, j2⟩ := q6 q z
                exact ⟨j, by omega, by rw [r152 j j1]; exact j2⟩
              · subst z
                exact ⟨m2, by omega, by rw [e3', rd_s]⟩
            · rw [r152 j (by omega)] at hq
              unfold addB
              rw [d2 j hj q hq5 hq r hr hup' hbs']; rfl
            · unfold addB
              by_cases e : 3 * (r / 24 + 1 - c / 24) + (r % 24 + 1 - c % 24) = dd
              · have := (at_ r hr hbs').mp e
                rw [uniq r this.1 this.2]; simp
              · rw [hall r hr hup' hbs' (by omega)]; rfl
          · -- found before
            have er := uniq r h1 h2
            subst er
            rw [i1, i2] at hup
            cases e : B2 (24 * y' + x')
            · exfalso
              have e1 := b2.2.2.1 _ i3
              rw [e] at e1
              rw [e1] at w
              rcases ho _ i3 with ⟨f, z1, z2, z3, z4⟩ | ⟨_, z2⟩
              · have z3 : joinP u (f % 24) (f / 24) ((24 * y' + x') % 24) ((24 * y' + x') / 24) := z3
                rw [i1, i2] at z3
                have jp : joinP u (p % 24) (p / 24) x' y' := join_tr (b2.2.1 c bc2).2 (join_one cup hup hbs)
                exact hf.2 f z1 (join_tr z3 (join_sym jp))
              · exact w z2
            · rfl
        · refine absurd ?_ hno
          refine ⟨r % 24, r / 24, by omega, by omega, ?_, ?_⟩
          · rw [e3, nI_iI]; congr 1; omega
          · rw [e5, nI_iI]; congr 1; omega
set_option maxHeartbeats 1000000 in
theorem s_X8_feels (d : Nat) (u : Nat → Nat → Nat) (hu1 : ∀ x y, u x y ≤ 1) (σ : tk_S) (hU : ∀ q, q < 576 → σ.1 150 q = nI (u (q % 24) (q / 24))) (Q : tk_S → Prop) (h : ∀ σ', Fr fr11 σ σ' → σ'.2 = σ.2 → σ'.1 132 25 = nI (thingN u) → (∀ q, q < 576 → lab u 576 q (σ'.1 151 q)) → Q σ') : p_X8_feels (d + 2) [aN 132] σ Q := by
  refine e_X8_feels (d + 2) (b_X8_feels_0 (d + 1) σ Q ?_)
  have L0 := up_loop (fun p => g_X8_feels (d + 2) 7 [(0, aN 132), (1, aI (nI p))] (tk_fill (tk_up σ 132 25 0) 151 p (fun _ => -1)) Q) 576 ?_ ?_
  · rw [tk_fill_0] at L0
    exact L0
  · refine b_X8_feels_7 (d + 1) _ _ Q ⟨fun _ => ?_, fun z => absurd (by decide) z⟩
    generalize e1 : tk_fill (tk_up σ 132 25 0) 151 576 (fun _ => (-1 : Int32)) = σ1
    have f1 : Fr fr11 σ σ1 := by rw [← e1]; exact (Fr.up σ (P := fr11) _ (by unfold fr11; omega)).tr (Fr.fill _ _ (fun j => by unfold fr11; omega))
    have L := up_loop (fun p => ∀ σ2, Fr fr11 σ σ2 → σ2.2 = σ.2 → σ2.1 132 25 = nI (cnt (fun q => pB (firstP u q)) p) → (∀ q, q < 576 → lab u p q (σ2.1 151 q)) → g_X8_feels (d + 2) 29 [(0, aN 132), (1, aI (nI p))] σ2 Q) 576 ?_ ?_
    · refine L σ1 f1 (by rw [← e1]; rfl) (by rw [← e1, tk_fill_o _ _ _ (by omega), rd_s]; rfl) (fun q hq => Or.inr ⟨fun f hf => by omega, ?_⟩)
      rw [← e1, tk_fill_s]
      show (if q < 576 then (-1 : Int32) else (tk_up σ 132 25 0).1 151 q) = -1
      rw [if_pos hq]
    · intro σ2 f2 g2 c2 l2
      exact b_X8_feels_29 (d + 1) _ σ2 Q ⟨fun _ => h σ2 f2 g2 c2 l2, fun z => absurd (by decide) z⟩
    · intro p hp ih σ2 f2 g2 c2 l2
      have hu := hu1 (p % 24) (p / 24)
      have hT : cnt (fun q => pB (firstP u q)) p ≤ p := cnt_n _ _
      have next : ¬ firstP u p → g_X8_feels (d + 2) 29 [(0, aN 132), (1, aI (nI (p + 1)))] σ2 Q := by
        intro hn
        refine ih σ2 f2 g2 ?_ (fun q hq => lab_no hn (l2 q hq))
        rw [c2]
        congr 1
        show _ = cnt (fun q => pB (firstP u q)) p + (if pB (firstP u p) then 1 else 0)
        rw [pB_f.mpr hn]; rfl
      refine b_X8_feels_29 (d + 1) _ σ2 Q ⟨fun z => absurd ((le_nI (n := 576) (by omega) (by omega)).mp z) (by omega), fun _ => ⟨vp_in_nI hp (by omega), ?_⟩⟩
      rw [nI_clamp (by omega), f2 150 p (by unfold fr11; omega), hU p hp]
      refine ⟨fun z => ?_, fun z => ⟨vp_in_nI hp (by omega), fun w => ⟨vp_in_nI hp (by omega), fun σ3 e3 => ?_⟩, fun w => ?_⟩⟩
      · rw [nI_1]
        have z := (nI_eq (b := 0) (by omega) (by omega)).mp z
        exact next (fun hf => by have := hf.1.2.2; omega)
      · have hup : upP u (p % 24) (p / 24) := ⟨by omega, by omega, by
          have : ¬ u (p % 24) (p / 24) = 0 := fun y => z (by rw [y]; rfl)
          omega⟩
        have hf : firstP u p := by
          obtain ⟨f, f1', f2', f3'⟩ := first_of p hup
          by_cases e : f = p
          · rw [← e]; exact f2'
          · exfalso
            rcases l2 p hp with ⟨f', z1, z2, z3, z4⟩ | ⟨z1, z2⟩
            · rw [w] at z4
              have hc := cnt_n (fun q => pB (firstP u q)) f'
              have h0 := nI_pos (n := cnt (fun q => pB (firstP u q)) f') (by omega)
              rw [← z4] at h0; exact h0 (by decide)
            · exact z1 f (by omega) f2' f3'
        rw [show (0 : Int32).toNatClampNeg = 0 from rfl, rd_o (by omega), c2] at e3
        have ec : cnt (fun q => pB (firstP u q)) (p + 1) = cnt (fun q => pB (firstP u q)) p + 1 := by
          show cnt (fun q => pB (firstP u q)) p + (if pB (firstP u p) then 1 else 0) = _
          rw [pB_t.mpr hf]; rfl
        have f3 : Fr fr11 σ σ3 := f2.tr (by rw [e3]; exact (Fr.up _ (P := fr11) _ (by unfold fr11; omega)).tr (Fr.up _ _ (by unfold fr11; omega)))
        refine s_bfs d u hu1 p hp hf (cnt (fun q => pB (firstP u q)) p) (by omega) σ3 (fun q hq => by rw [f3 _ _ (by unfold fr11; omega)]; exact hU q hq) (σ2.1 151) l2 (by rw [e3, rd_o (by omega), rd_o (by omega)]; exact c2) Q (fun σ4 f4 g4 l4 => ?_) 0 (by omega) σ3 (fun q => decide (q = p)) 1 (Fr.rf σ3) rfl ⟨by simp, fun q hq => ?_, fun q hq => ?_, ?_, fun j hj => ?_, fun q hq => ?_⟩ (fun j hj => by omega)
        · rw [nI_1, nI_1]
          refine ih _ ((f3.tr (f4.wk (fun k j q => by unfold fr11; omega))).tr (Fr.up _ _ (by unfold fr11; omega))) (by show σ4.2 = σ.2; rw [g4, e3]; exact g2) (by rw [rd_s, ec]) (fun q hq => ?_)
          rw [rd_o (by omega), l4 q hq]
          by_cases e : ofT u p q
          · rw [pB_t.mpr e, if_pos rfl]
            exact Or.inl ⟨p, by omega, hf, e, rfl⟩
          · rw [pB_f.mpr e, if_neg (by decide)]
            rcases l2 q hq with ⟨f, z1, z2⟩ | ⟨z1, z2⟩
            · exact Or.inl ⟨f, by omega, z2⟩
            · refine Or.inr ⟨fun f hf' hfi => ?_, z2⟩
              by_cases e2 : f = p
              · subst e2; exact e
              · exact z1 f (by omega) hfi
        · have := of_decide_eq_true hq
          subst this
          exact ⟨hp, join_rf hup⟩
        · rw [e3]
          by_cases e : q = p
          · subst e; rw [rd_s]; simp
          · rw [rd_o (by omega), rd_o (by omega)]; simp [e]
        · rw [← sum_one, sumB_one, if_pos hp]
        · have : j = 0 := by omega
          subst this
          exact ⟨p, by rw [e3, rd_o (by omega), rd_s], by simp⟩
        · have := of_decide_eq_true hq
          subst this
          exact ⟨0, by omega, by rw [e3, rd_o (by omega), rd_s]⟩
      · rw [nI_1]
        refine next (fun hf => ?_)
        rcases l2 p hp with ⟨f, z1, z2, z3, z4⟩ | ⟨z1, z2⟩
        · exact hf.2 f z1 z3
        · exact w z2
  · intro p hp ih
    refine b_X8_feels_7 (d + 1) _ _ Q ⟨fun z => absurd ((le_nI (n := 576) (by omega) (by omega)).mp z) (by omega), fun _ => ⟨vp_in_nI hp (by omega), ?_⟩⟩
    rw [nI_clamp (by omega), nI_1, tk_fill_up _ _ _ _ rfl]
    exact ih
