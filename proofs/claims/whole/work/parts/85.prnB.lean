/-! print by the reference -/
def fr10 : Nat → Nat → Prop := fun k j => (k = 132 ∧ 20 ≤ j) ∨ (146 ≤ k ∧ k ≤ 150)
set_option maxHeartbeats 1000000 in
theorem s_X8_print (d : Nat) (a : Ab) (hw : WF a) (σ : tk_S) (hM : MI a σ) (S : Nat) (hS : S < 2 ^ aN0 a) (Q : Int32 → tk_S → Prop) (h : ∀ σ', Fr fr10 σ σ' → σ'.2 = σ.2 → (∀ p, p < 576 → σ'.1 150 p = b2i (pB (upS a S (aN0 a) (p % 24) (p / 24)))) → Q (nI (cnt (fun p => pB (upS a S (aN0 a) (p % 24) (p / 24))) 576)) σ') : p_X8_print (d + 3) [aN 132, aI (nI S)] σ Q := by
  have hn12 := hw.1
  have hp12 : 2 ^ aN0 a ≤ 2 ^ 12 := Nat.pow_le_pow_right (by omega) hn12
  refine e_X8_print (d + 3) _ (b_X8_print_0 (d + 2) _ σ Q ?_)
  have ep : ((1 : Int32) <<< (nI (aN0 a) &&& 31)) - 1 = nI (2 ^ aN0 a - 1) := by
    have t : ∀ i, i < 13 → ((1 : Int32) <<< (nI i &&& 31)) - 1 = nI (2 ^ i - 1) := by decide +kernel
    exact t _ (by omega)
  rw [hM.1, ep]
  refine s_X8_isInN (d + 2) _ 0 (2 ^ aN0 a - 1) (by omega) (by omega) σ _ (fun _ _ _ _ => ⟨fun _ => ?_, fun z => absurd z (by decide)⟩) (fun no => absurd ⟨S, Nat.zero_le _, by omega, rfl⟩ no)
  have L := up_loop (fun p => g_X8_print (d + 3) 20 [(0, aN 132), (1, aI (nI S)), (2, aI (nI p))] (tk_fill σ 150 p (fun _ => 0)) Q) 576 ?_ ?_
  · rw [tk_fill_0] at L
    exact L
  · refine b_X8_print_20 (d + 2) _ _ _ Q ⟨fun _ => ?_, fun z => absurd (by decide) z⟩
    generalize e1 : tk_fill σ 150 576 (fun _ => (0 : Int32)) = σ1
    have rd1 : ∀ k j, k ≠ 150 → σ1.1 k j = σ.1 k j := fun k j hk => by rw [← e1, tk_fill_o _ _ _ hk]
    have z1 : ∀ p, p < 576 → σ1.1 150 p = 0 := fun p hp => by
      rw [← e1, tk_fill_s]
      show (if p < 576 then (0 : Int32) else σ.1 150 p) = 0
      rw [if_pos hp]
    have g1 : σ1.2 = σ.2 := by rw [← e1]; rfl
    -- textures: they don't read what is up
    have hM0 : MI (fun c i j => if c = 11 then 0 else a c i j) σ1 := by
      obtain ⟨h0, h1, h2, h3, h4, h5, h6, h7, h8⟩ := hM
      refine ⟨by rw [rd1 _ _ (by omega)]; exact h0, by rw [rd1 _ _ (by omega)]; exact h1, by rw [rd1 _ _ (by omega)]; exact h2, fun k hk => ?_, fun i hi => ?_, fun i j hi hj => ?_, fun s t hs ht => ?_, fun t ht => ?_, fun x y hx hy => ?_⟩
      · rw [rd1 _ _ (by omega), rd1 _ _ (by omega)]; exact h3 k hk
      · exact MIs.keep (h4 i hi) (fun k j h1 h2 => rd1 k j (by omega))
      · rw [rd1 _ _ (by omega)]; exact h5 i j hi hj
      · rw [rd1 _ _ (by omega)]; exact h6 s t hs ht
      · rw [rd1 _ _ (by omega)]; exact h7 t ht
      · rw [z1 _ (by omega)]; rfl
    have hw0 : WF (fun c i j => if c = 11 then 0 else a c i j) := by
      obtain ⟨w0, w1, w2, w3, w4, w5, w6, w7, w8, w9, w10⟩ := hw
      exact ⟨w0, w1, w2, w3, w4, w5, w6, w7, w8, w9, fun x y _ _ => Nat.zero_le _⟩
    refine s_X8_textured d _ hw0 σ1 hM0 _ (fun σ2 f2 g2 s2 => ?_)
    have s2 : texS a σ2 := s2
    have rd2 : ∀ k j, ¬ fr10 k j → σ2.1 k j = σ.1 k j := fun k j hk => by
      unfold fr10 at hk
      rw [f2 k j (by unfold fr9; omega), rd1 k j (by omega)]
    have L2 := up_loop (fun i => ∀ σ3, Fr (fun k _ => k = 150) σ2 σ3 → σ3.2 = σ.2 → (∀ p, p < 576 → σ3.1 150 p = b2i (pB (upS a S i (p % 24) (p / 24)))) → g_X8_print (d + 3) 46 [(0, aN 132), (1, aI (nI S)), (2, aI (nI i))] σ3 Q) (aN0 a) ?_ ?_
    · refine L2 σ2 (Fr.rf _) (g2.trans g1) (fun p hp => ?_)
      rw [pB_f.mpr (upS_0 a S _ _), f2 150 p (by unfold fr9; omega), z1 p hp]; rfl
    · intro σ3 f3 g3 u3
      have c0 : σ3.1 132 0 = nI (aN0 a) := by rw [f3 _ _ (by omega), rd2 _ _ (by unfold fr10; omega)]; exact hM.1
      refine b_X8_print_46 (d + 2) _ _ σ3 Q ⟨fun _ => ?_, fun z => absurd (by rw [c0]; exact (le_nI (by omega) (by omega)).mpr (Nat.le_refl _)) z⟩
      have L3 := up_loop (fun p => g_X8_print (d + 3) 139 [(0, aN 132), (2, aI (nI (cnt (fun p => pB (upS a S (aN0 a) (p % 24) (p / 24))) p))), (3, aI (nI p))] σ3 Q) 576 ?_ ?_
      · exact L3
      · refine b_X8_print_139 (d + 2) _ _ σ3 Q ⟨fun _ => h σ3 (fun k j hk => ?_) g3 u3, fun z => absurd (by decide) z⟩
        have hk' : ¬ ((k = 132 ∧ 20 ≤ j) ∨ (146 ≤ k ∧ k ≤ 150)) := hk
        rw [f3 k j (by omega), rd2 k j hk]
      · intro p hp ih
        refine b_X8_print_139 (d + 2) _ _ σ3 Q ⟨fun z => absurd ((le_nI (n := 576) (by omega) (by omega)).mp z) (by omega), fun _ => ⟨vp_in_nI hp (by omega), ?_⟩⟩
        rw [nI_clamp (by omega), u3 p hp, nI_1, nI_1]
        have e : ∀ b, pB (upS a S (aN0 a) (p % 24) (p / 24)) = b → cnt (fun p => pB (upS a S (aN0 a) (p % 24) (p / 24))) (p + 1) = cnt (fun p => pB (upS a S (aN0 a) (p % 24) (p / 24))) p + (if b then 1 else 0) := fun b hb => by
          show cnt (fun p => pB (upS a S (aN0 a) (p % 24) (p / 24))) p + (if pB (upS a S (aN0 a) (p % 24) (p / 24)) then 1 else 0) = _
          rw [hb]
        refine ⟨fun c => ?_, fun c => ?_⟩
        · have e1 := e false (b2i_0.mp c)
          rw [e1] at ih
          rw [show nI (cnt (fun p => pB (upS a S (aN0 a) (p % 24) (p / 24))) p) + 0 = nI (cnt (fun p => pB (upS a S (aN0 a) (p % 24) (p / 24))) p + 0) from nI_add _ 0]
          exact ih
        · have e1 := e true (b2i_n.mp c)
          rw [e1] at ih
          exact ih
    · intro i hi ih σ3 f3 g3 u3
      have c0 : σ3.1 132 0 = nI (aN0 a) := by rw [f3 _ _ (by omega), rd2 _ _ (by unfold fr10; omega)]; exact hM.1
      have hWi := hw.2.2.2.2.2.1 i hi
      have hMi := hM.2.2.2.2.1 i hi
      refine b_X8_print_46 (d + 2) _ _ σ3 Q ⟨fun z => absurd ((le_nI (n := aN0 a) (k := i) (by omega) (by omega)).mp (by rw [c0] at z; exact z)) (by omega), fun _ => ?_⟩
      rw [bt_shr1 _ (by omega), bt_nI _ (by omega), b1n, nI_1]
      refine ⟨fun c => ?_, fun c => ih σ3 f3 g3 (fun p hp => by rw [u3 p hp, pB_c (upS_n c)])⟩
      have c : S.testBit i = true := by cases z : S.testBit i; exact absurd z c; rfl
      have s3 : texS a σ3 := ⟨by rw [f3 _ _ (by omega)]; exact s2.1, fun k hk => by rw [f3 _ _ (by omega)]; exact s2.2.1 k hk, by
        rw [f3 132 21 (by omega)]
        rcases s2.2.2 with q | ⟨t, t1, t2, t3⟩
        · exact Or.inl q
        · exact Or.inr ⟨t, t1, t2, fun k hk => by rw [f3 _ _ (by omega)]; exact t3 k hk⟩⟩
      refine s_X8_textureOf (d + 2) a hw σ3 s3 hi _ (fun r hr => ?_)
      have L3 := up_loop (fun p => ∀ σ4, Fr (fun k _ => k = 150) σ2 σ4 → σ4.2 = σ.2 → (∀ q, q < 576 → σ4.1 150 q = b2i (pB (if q < p then upS a S (i + 1) (q % 24) (q / 24) else upS a S i (q % 24) (q / 24)))) → g_X8_print (d + 3) 74 [(0, aN 132), (1, aI (nI S)), (2, aI (nI i)), (3, aI r), (4, aI (nI p))] σ4 Q) 576 ?_ ?_
      · exact L3 σ3 f3 g3 (fun q hq => by rw [if_neg (by omega)]; exact u3 q hq)
      · intro σ4 f4 g4 u4
        refine b_X8_print_74 (d + 2) _ _ _ _ σ4 Q ⟨fun _ => ?_, fun z => absurd (by decide) z⟩
        rw [nI_1]
        exact ih σ4 f4 g4 (fun q hq => by rw [u4 q hq, if_pos hq])
      · intro p hp ihp σ4 f4 g4 u4
        have put : ∀ v : Int32, v = b2i (pB (upS a S (i + 1) (p % 24) (p / 24))) → g_X8_print (d + 3) 74 [(0, aN 132), (1, aI (nI S)), (2, aI (nI i)), (3, aI r), (4, aI (nI (p + 1)))] (tk_up σ4 150 p v) Q := by
          intro v hv
          refine ihp _ (f4.tr (Fr.up _ _ rfl)) g4 (fun q hq => ?_)
          by_cases e : q = p
          · subst e; rw [rd_s, if_pos (by omega)]; exact hv
          · rw [rd_o (by omega), u4 q hq]
            by_cases e2 : q < p
            · rw [if_pos e2, if_pos (by omega)]
            · rw [if_neg e2, if_neg (by omega)]
        refine b_X8_print_74 (d + 2) _ _ _ _ σ4 Q ⟨fun z => absurd ((le_nI (n := 576) (by omega) (by omega)).mp z) (by omega), fun _ => ⟨vp_in_nI hp (by omega), ?_⟩⟩
        rw [nI_clamp (by omega), u4 p hp, if_neg (by omega), nI_1, rem24 p (by omega), div24 p (by omega)]
        have us := upS_s (x := p % 24) (y := p / 24) hi c hr
        refine ⟨fun q => ⟨vp_in_nI hp (by omega), put 1 ?_⟩, fun q => ?_⟩
        · rw [pB_t.mpr (us.mpr (Or.inl (pB_t.mp (b2i_n.mp q))))]; rfl
        · have q := pB_f.mp (b2i_0.mp q)
          have rd4 : ∀ k j, 133 ≤ k → k ≤ 140 → σ4.1 k j = σ.1 k j := fun k j h1 h2 => by rw [f4 _ _ (by omega), rd2 _ _ (by unfold fr10; omega)]
          have hM4 : MIs a σ4 i := MIs.keep hMi (fun k j h1 h2 => rd4 k j (by omega) h2)
          refine s_X8_isUp (d + 1) a i (by omega) hWi σ4 (mco_of hM4) hM4.2.2.2.2 r (by omega) (by omega) _ ⟨fun z => ⟨vp_in_nI hp (by omega), put 0 ?_⟩, fun z => ⟨vp_in_nI hp (by omega), put 1 ?_⟩⟩
          · rw [pB_f.mpr (fun v => (us.mp v).elim q (pB_f.mp (b2i_0.mp z)))]; rfl
          · rw [pB_t.mpr (us.mpr (Or.inr (pB_t.mp (b2i_n.mp z))))]; rfl
  · intro p hp ih
    refine b_X8_print_20 (d + 2) _ _ _ Q ⟨fun z => absurd ((le_nI (n := 576) (by omega) (by omega)).mp z) (by omega), fun _ => ⟨vp_in_nI hp (by omega), ?_⟩⟩
    rw [nI_clamp (by omega), nI_1, tk_fill_up _ _ _ _ rfl]
    exact ih
/-! things: walks -/
theorem walk_ends {u : Nat → Nat → Nat} {x y : Nat} : ∀ n x' y', walkP u x y n x' y' → upP u x y ∧ upP u x' y' := by
  intro n
  induction n with
  | zero => rintro x' y' ⟨h, rfl, rfl⟩; exact ⟨h, h⟩
  | succ n ih => rintro x' y' ⟨x1, y1, h1, _, h3⟩; exact ⟨(ih x1 y1 h1).1, h3⟩
theorem walk_tr {u : Nat → Nat → Nat} {x y n x1 y1 : Nat} (h : walkP u x y n x1 y1) : ∀ m x2 y2, walkP u x1 y1 m x2 y2 → walkP u x y (n + m) x2 y2 := by
  intro m
  induction m with
  | zero => rintro x2 y2 ⟨_, rfl, rfl⟩; exact h
  | succ m ih => rintro x2 y2 ⟨x3, y3, h1, h2, h3⟩; exact ⟨x3, y3, ih x3 y3 h1, h2, h3⟩
theorem beside_rf (x y : Nat) : besideP x y x y := ⟨by omega, by omega, by omega, by omega⟩
theorem beside_sym {x y x' y' : Nat} (h : besideP x y x' y') : besideP x' y' x y := ⟨h.2.1, h.1, h.2.2.2, h.2.2.1⟩
theorem walk_more {u : Nat → Nat → Nat} {x y n x' y' : Nat} (h : walkP u x y n x' y') : walkP u x y (n + 1) x' y' := ⟨x', y', h, beside_rf _ _, (walk_ends n x' y' h).2⟩
theorem walk_one {u : Nat → Nat → Nat} {x y x' y' : Nat} (h1 : upP u x y) (h2 : upP u x' y') (h : besideP x y x' y') : walkP u x y 1 x' y' := ⟨x, y, ⟨h1, rfl, rfl⟩, h, h2⟩
theorem join_rf {u : Nat → Nat → Nat} {x y : Nat} (h : upP u x y) : joinP u x y x y := ⟨0, h, rfl, rfl⟩
theorem join_tr {u : Nat → Nat → Nat} {x y x1 y1 x2 y2 : Nat} (h : joinP u x y x1 y1) (h2 : joinP u x1 y1 x2 y2) : joinP u x y x2 y2 := by
  obtain ⟨n, h⟩ := h
  obtain ⟨m, h2⟩ := h2
  exact ⟨n + m, walk_tr h m _ _ h2⟩
theorem join_sym {u : Nat → Nat → Nat} {x y x' y' : Nat} (h : joinP u x y x' y') : joinP u x' y' x y := by
  obtain ⟨n, h⟩ := h
  have : ∀ n x' y', walkP u x y n x' y' → joinP u x' y' x y := by
    intro n
    induction n with
    | zero => rintro x' y' ⟨h, rfl, rfl⟩; exact join_rf h
    | succ n ih =>
      rintro x' y' ⟨x1, y1, h1, h2, h3⟩
      exact join_tr ⟨1, walk_one h3 (walk_ends n x1 y1 h1).2 (beside_sym h2)⟩ (ih x1 y1 h1)
  exact this n x' y' h
theorem join_ends {u : Nat → Nat → Nat} {x y x' y' : Nat} (h : joinP u x y x' y') : upP u x y ∧ upP u x' y' := by
  obtain ⟨n, h⟩ := h
  exact walk_ends n _ _ h
theorem join_one {u : Nat → Nat → Nat} {x y x' y' : Nat} (h1 : upP u x y) (h2 : upP u x' y') (h : besideP x y x' y') : joinP u x y x' y' := ⟨1, walk_one h1 h2 h⟩
theorem pin_ix {x y : Nat} (hx : x < 24) (hy : y < 24) : (24 * y + x) % 24 = x ∧ (24 * y + x) / 24 = y ∧ 24 * y + x < 576 := ⟨by omega, by omega, by omega⟩
/-- every pin that is up belongs to a thing -/
theorem first_of {u : Nat → Nat → Nat} : ∀ q, upP u (q % 24) (q / 24) → ∃ f, f ≤ q ∧ firstP u f ∧ ofT u f q := by
  intro q
  induction q using Nat.strongRecOn with
  | _ q ih =>
    intro h
    by_cases e : ∃ r, r < q ∧ joinP u (r % 24) (r / 24) (q % 24) (q / 24)
    · obtain ⟨r, r1, r2⟩ := e
      obtain ⟨f, f1, f2, f3⟩ := ih r r1 (join_ends r2).1
      exact ⟨f, by omega, f2, join_tr f3 r2⟩
    · exact ⟨q, Nat.le_refl _, ⟨h, fun r hr hj => e ⟨r, hr, hj⟩⟩, join_rf h⟩
theorem first_uq {u : Nat → Nat → Nat} {f f' : Nat} (h : firstP u f) (h' : firstP u f') (hj : joinP u (f % 24) (f / 24) (f' % 24) (f' / 24)) : f = f' := by
  rcases Nat.lt_trichotomy f f' with q | q | q
  · exact absurd hj (h'.2 f q)
  · exact q
  · exact absurd (join_sym hj) (h.2 f' q)
/-- what is left at pin p: those that hang together with none ahead of it -/
def leftS (u : Nat → Nat → Nat) (p x y : Nat) : Prop := upP u x y ∧ ∀ q, q < p → ¬ joinP u (q % 24) (q / 24) x y
theorem left_cl {u : Nat → Nat → Nat} {p x y x' y' : Nat} (h : leftS u p x y) (hj : joinP u x y x' y') : leftS u p x' y' := ⟨(join_ends hj).2, fun q hq z => h.2 q hq (join_tr z (join_sym hj))⟩
theorem left_first {u : Nat → Nat → Nat} {p : Nat} : leftS u p (p % 24) (p / 24) ↔ firstP u p := Iff.rfl
theorem left_no {u : Nat → Nat → Nat} {p : Nat} (h : ¬ firstP u p) (x y : Nat) : leftS u (p + 1) x y ↔ leftS u p x y := by
  constructor
  · exact fun q => ⟨q.1, fun r hr => q.2 r (by omega)⟩
  · rintro ⟨q1, q2⟩
    refine ⟨q1, fun r hr hj => ?_⟩
    by_cases e : r = p
    · subst e
      obtain ⟨f, f1, f2, f3⟩ := first_of r (join_ends hj).1
      by_cases e2 : f = r
      · subst e2; exact h f2
      · exact q2 f (by omega) (join_tr f3 hj)
    · exact q2 r (by omega) hj
theorem left_yes {u : Nat → Nat → Nat} {p : Nat} (x y : Nat) : leftS u (p + 1) x y ↔ leftS u p x y ∧ ¬ joinP u (p % 24) (p / 24) x y := by
  constructor
  · exact fun q => ⟨⟨q.1, fun r hr => q.2 r (by omega)⟩, q.2 p (by omega)⟩
  · rintro ⟨⟨q1, q2⟩, q3⟩
    refine ⟨q1, fun r hr hj => ?_⟩
    by_cases e : r = p
    · subst e; exact q3 hj
    · exact q2 r (by omega) hj
