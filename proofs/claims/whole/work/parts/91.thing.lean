/-! things and thing: the steps -/
def didx (p r : Nat) : Nat := 3 * (r / 24 + 1 - p / 24) + (r % 24 + 1 - p % 24)
def besP (u : Nat → Nat → Nat) (p r : Nat) : Prop := r ≠ p ∧ besideP (p % 24) (p / 24) (r % 24) (r / 24) ∧ upP u (r % 24) (r / 24)
set_option maxHeartbeats 1000000 in
theorem s_X8_beside (d : Nat) (u : Nat → Nat → Nat) (hu1 : ∀ x y, u x y ≤ 1) (p : Nat) (hp : p < 576) (σ : tk_S) (hU : ∀ q, q < 576 → σ.1 150 q = nI (u (q % 24) (q / 24))) (Q : Int32 → tk_S → Prop) (h : Q (nI (besN u p)) σ) : p_X8_beside (d + 2) [aN 132, aI (nI p)] σ Q := by
  refine e_X8_beside (d + 2) _ (b_X8_beside_0 (d + 1) _ σ Q ?_)
  have tot : cnt (fun r => pB (besP u p r ∧ 0 ≤ didx p r)) 576 = besN u p := cnt_c (fun r _ => pB_c ⟨fun q => q.1, fun q => ⟨q, Nat.zero_le _⟩⟩)
  have bl : besN u p ≤ 576 := cnt_n _ _
  have L := up_loop (fun dd => ∀ s, s + cnt (fun r => pB (besP u p r ∧ dd ≤ didx p r)) 576 = besN u p → g_X8_beside (d + 2) 4 [(0, aN 132), (1, aI (nI p)), (2, aI (nI s)), (3, aI (nI dd))] σ Q) 9 ?_ ?_
  · exact L 0 (by rw [Nat.zero_add]; exact tot)
  · intro s hs
    rw [cnt_zero (fun r hr => pB_f.mpr (fun q => by
      obtain ⟨⟨_, ⟨z1, z2, z3, z4⟩, _⟩, q2⟩ := q
      unfold didx at q2
      omega)), Nat.add_zero] at hs
    subst hs
    exact b_X8_beside_4 (d + 1) _ _ _ σ Q ⟨fun _ => h, fun z => absurd (by decide) z⟩
  · intro dd hdd ih s hs
    have sl : s ≤ 576 := by omega
    have at_ : ∀ r, besideP (p % 24) (p / 24) (r % 24) (r / 24) → (didx p r = dd ↔ (r % 24 + 1 = p % 24 + dd % 3 ∧ r / 24 + 1 = p / 24 + dd / 3)) := by
      intro r hbs
      obtain ⟨z1, z2, z3, z4⟩ := hbs
      unfold didx
      omega
    have no : (∀ r, r < 576 → besP u p r → r % 24 + 1 = p % 24 + dd % 3 → r / 24 + 1 = p / 24 + dd / 3 → False) → g_X8_beside (d + 2) 4 [(0, aN 132), (1, aI (nI p)), (2, aI (nI s + 0)), (3, aI (nI (dd + 1)))] σ Q := by
      intro hn
      rw [show nI s + 0 = nI (s + 0) from nI_add _ 0, Nat.add_zero]
      refine ih s ?_
      have e0 : cnt (fun r => pB (besP u p r ∧ dd + 1 ≤ didx p r)) 576 = cnt (fun r => pB (besP u p r ∧ dd ≤ didx p r)) 576 := by
        refine cnt_c (fun r hr => pB_c ⟨fun q => ⟨q.1, by omega⟩, fun q => ⟨q.1, ?_⟩⟩)
        by_cases e : didx p r = dd
        · have := (at_ r q.1.2.1).mp e
          exact (hn r hr q.1 this.1 this.2).elim
        · omega
      rw [e0]
      exact hs
    refine b_X8_beside_4 (d + 1) _ _ _ σ Q ⟨fun z => absurd ((le_nI (n := 9) (by omega) (by omega)).mp z) (by omega), fun _ z2 e2 z3 e3 => ?_⟩
    rw [rem24 p (by omega), rem3 dd (by omega), off_e] at e2
    rw [div24 p (by omega), div3 dd (by omega), off_e] at e3
    rw [show (4 : Int32) = nI 4 from rfl, nI_eq (by omega) (by omega), nI_1, nI_1]
    refine ⟨fun v => no (fun r hr hb h1 h2 => hb.1 (by omega)), fun v => ?_⟩
    refine s_X8_isPin d z2 z3 σ _ (fun hpin => ⟨fun w => absurd w (by decide), fun _ => ?_⟩) (fun hno => ⟨fun _ => no (fun r hr hb h1 h2 => hno ?_), fun w => absurd rfl w⟩)
    · obtain ⟨x', y', hx', hy', ex, ey⟩ := hpin
      have ex2 : (x' : Int) = ((p % 24 : Nat) : Int) + ((dd % 3 : Nat) : Int) - 1 := by
        rw [e2, nI_iI] at ex
        exact ((iI_eq (by omega) (by omega) (by omega) (by omega)).mp ex).symm
      have ey2 : (y' : Int) = ((p / 24 : Nat) : Int) + ((dd / 3 : Nat) : Int) - 1 := by
        rw [e3, nI_iI] at ey
        exact ((iI_eq (by omega) (by omega) (by omega) (by omega)).mp ey).symm
      obtain ⟨i1, i2, i3⟩ := pin_ix hx' hy'
      have uniq : ∀ r, r % 24 + 1 = p % 24 + dd % 3 → r / 24 + 1 = p / 24 + dd / 3 → r = 24 * y' + x' := fun r h1 h2 => by omega
      have hu := hu1 x' y'
      rw [ex, ey, ix24, nI_clamp (by omega), hU _ i3, i1, i2]
      refine ⟨vp_in_nI i3 (by omega), fun w => no (fun r hr hb h1 h2 => ?_), fun w => ?_⟩
      · have w := (nI_eq (b := 0) (by omega) (by omega)).mp w
        have := hb.2.2
        rw [uniq r h1 h2, i1, i2] at this
        have := this.2.2
        omega
      · have hbs : besideP (p % 24) (p / 24) ((24 * y' + x') % 24) ((24 * y' + x') / 24) := by rw [i1, i2]; exact ⟨by omega, by omega, by omega, by omega⟩
        have hb : besP u p (24 * y' + x') := ⟨by omega, hbs, by
          rw [i1, i2]
          exact ⟨hx', hy', by
            have : ¬ u x' y' = 0 := fun y => w (by rw [y]; rfl)
            omega⟩⟩
        have hd := (at_ _ hbs).mpr ⟨by omega, by omega⟩
        refine ih (s + 1) ?_
        have e : cnt (fun r => pB (besP u p r ∧ dd ≤ didx p r)) 576 = cnt (fun r => pB (besP u p r ∧ dd + 1 ≤ didx p r)) 576 + 1 := by
          rw [cnt_wout _ (24 * y' + x') (pB_t.mpr ⟨hb, by omega⟩) 576 i3]
          have e0 : cnt (wout (fun r => pB (besP u p r ∧ dd ≤ didx p r)) (24 * y' + x')) 576 = cnt (fun r => pB (besP u p r ∧ dd + 1 ≤ didx p r)) 576 := by
            refine cnt_c (fun r hr => ?_)
            unfold wout
            apply Bool.eq_iff_iff.mpr
            rw [Bool.and_eq_true, pB_t, pB_t, decide_eq_true_iff]
            constructor
            · rintro ⟨q1, q2⟩
              refine ⟨q1.1, ?_⟩
              by_cases z : didx p r = dd
              · have := (at_ r q1.1.2.1).mp z
                exact absurd (uniq r this.1 this.2) q2
              · omega
            · rintro ⟨q1, q2⟩
              refine ⟨⟨q1, by omega⟩, fun z => ?_⟩
              subst z
              omega
          rw [e0]
        omega
    · refine ⟨r % 24, r / 24, by omega, by omega, ?_, ?_⟩
      · rw [e2, nI_iI]; congr 1; omega
      · rw [e3, nI_iI]; congr 1; omega
theorem fact_uq {u : Nat → Nat → Nat} {p w v v' : Nat} (h : isFact u p w v) (h' : isFact u p w v') : v = v' := by
  rcases h with ⟨rfl, h⟩ | ⟨rfl, h1, h2⟩ | ⟨rfl, h1, h2⟩ | ⟨rfl, h1, h2⟩ | ⟨rfl, h1, h2⟩ | ⟨rfl, h⟩
  all_goals rcases h' with ⟨e, g⟩ | ⟨e, g1, g2⟩ | ⟨e, g1, g2⟩ | ⟨e, g1, g2⟩ | ⟨e, g1, g2⟩ | ⟨e, g⟩
  all_goals first | (exfalso; omega) | skip
  · rw [h, g]
  · obtain ⟨q, q1, q2⟩ := h1
    obtain ⟨r, r1, r2⟩ := g1
    have := h2 r r1
    have := g2 q q1
    omega
  · obtain ⟨q, q1, q2⟩ := h1
    obtain ⟨r, r1, r2⟩ := g1
    have := h2 r r1
    have := g2 q q1
    omega
  · obtain ⟨q, q1, q2⟩ := h1
    obtain ⟨r, r1, r2⟩ := g1
    have := h2 r r1
    have := g2 q q1
    omega
  · obtain ⟨q, q1, q2⟩ := h1
    obtain ⟨r, r1, r2⟩ := g1
    have := h2 r r1
    have := g2 q q1
    omega
  · rw [h, g]
theorem thing_ex {u : Nat → Nat → Nat} {i : Nat} (hi : i < thingN u) : ∃ f, thingP u i f := by
  obtain ⟨f, f1, f2, f3⟩ := pick_ex (fun q => pB (firstP u q)) 576 i hi
  exact ⟨f, f1, pB_t.mp f2, f3⟩
theorem cnt_first_inj {u : Nat → Nat → Nat} {f f' : Nat} (h : firstP u f) (h' : firstP u f') (e : cnt (fun q => pB (firstP u q)) f = cnt (fun q => pB (firstP u q)) f') : f = f' := by
  rcases Nat.lt_trichotomy f f' with q | q | q
  · have := cnt_lt (p := fun q => pB (firstP u q)) q (pB_t.mpr h); omega
  · exact q
  · have := cnt_lt (p := fun q => pB (firstP u q)) q (pB_t.mpr h'); omega
theorem relM11 {a : Ab} {σ σ1 : tk_S} (hw : WF a) (hX : XI a σ) (hK : XK (core a) σ) (hF : XF (a 11) σ) (hM : MI a σ) (f : Fr fr11 σ σ1) (g : σ1.2 = σ.2) : WF a ∧ XI a σ1 ∧ XK (core a) σ1 ∧ XF (a 11) σ1 ∧ MI a σ1 :=
  ⟨hw, hX.fr hw (f.wk (fun k j q => by unfold fr11 at q; unfold frS; omega)), hK.fr (fun k j hk => f k j (by unfold fr11; omega)) g, hF.fr (fun k j hk => f k j (by unfold fr11; omega)), hM.fr3 (f.wk (fun k j q => by unfold fr11 at q; omega))⟩
/-- within the grid: 0 or 1 -/
def clampU (u : Nat → Nat → Nat) : Nat → Nat → Nat := fun x y => if x < 24 ∧ y < 24 then u x y else 0
theorem clampU_P {u : Nat → Nat → Nat} : upP (clampU u) = upP u := by
  funext x y
  unfold upP clampU
  refine propext ⟨fun q => ⟨q.1, q.2.1, ?_⟩, fun q => ⟨q.1, q.2.1, ?_⟩⟩
  · have := q.2.2; rw [if_pos ⟨q.1, q.2.1⟩] at this; exact this
  · rw [if_pos ⟨q.1, q.2.1⟩]; exact q.2.2
theorem clamp_walk {u : Nat → Nat → Nat} (x y : Nat) : ∀ n x' y', walkP (clampU u) x y n x' y' ↔ walkP u x y n x' y' := by
  intro n
  induction n with
  | zero => intro x' y'; show upP (clampU u) x y ∧ _ ↔ upP u x y ∧ _; rw [clampU_P]
  | succ n ih =>
    intro x' y'
    show (∃ x1 y1, walkP (clampU u) x y n x1 y1 ∧ besideP x1 y1 x' y' ∧ upP (clampU u) x' y') ↔ ∃ x1 y1, walkP u x y n x1 y1 ∧ besideP x1 y1 x' y' ∧ upP u x' y'
    rw [clampU_P]
    exact ⟨fun ⟨x1, y1, h1, h2⟩ => ⟨x1, y1, (ih x1 y1).mp h1, h2⟩, fun ⟨x1, y1, h1, h2⟩ => ⟨x1, y1, (ih x1 y1).mpr h1, h2⟩⟩
theorem clamp_join (u : Nat → Nat → Nat) : joinP (clampU u) = joinP u := by
  funext x y x' y'
  exact propext ⟨fun ⟨n, h⟩ => ⟨n, (clamp_walk x y n x' y').mp h⟩, fun ⟨n, h⟩ => ⟨n, (clamp_walk x y n x' y').mpr h⟩⟩
theorem clamp_first (u : Nat → Nat → Nat) : firstP (clampU u) = firstP u := by
  funext p
  unfold firstP
  rw [clampU_P, clamp_join]
theorem clamp_thingN (u : Nat → Nat → Nat) : thingN (clampU u) = thingN u := by unfold thingN; rw [clamp_first]
theorem clampT_of (u : Nat → Nat → Nat) : ofT (clampU u) = ofT u := by
  funext p q
  unfold ofT
  rw [clamp_join]
theorem clamp_bes (u : Nat → Nat → Nat) : besN (clampU u) = besN u := by
  funext q
  unfold besN
  rw [clampU_P]
theorem s_feels_a (d : Nat) (a : Ab) (hw : WF a) (σ : tk_S) (hM : MI a σ) (Q : tk_S → Prop) (h : ∀ σ', Fr fr11 σ σ' → σ'.2 = σ.2 → σ'.1 132 25 = nI (thingN (a 11)) → (∀ q, q < 576 → lab (a 11) 576 q (σ'.1 151 q)) → Q σ') : p_X8_feels (d + 2) [aN 132] σ Q := by
  refine s_X8_feels d (clampU (a 11)) (fun x y => ?_) σ (fun q hq => ?_) Q (fun σ' f g c l => h σ' f g (by rw [c, clamp_thingN]) (fun q hq => ?_))
  · unfold clampU
    by_cases e : x < 24 ∧ y < 24
    · rw [if_pos e]; exact hw.2.2.2.2.2.2.2.2.2.2 x y e.1 e.2
    · rw [if_neg e]; omega
  · unfold clampU
    rw [if_pos (by omega)]
    have := hM.2.2.2.2.2.2.2.2 (q % 24) (q / 24) (by omega) (by omega)
    rw [show 24 * (q / 24) + q % 24 = q by omega] at this
    exact this
  · have := l q hq
    unfold lab at this ⊢
    rw [clamp_first, clampT_of] at this
    exact this
theorem step_things (d : Nat) (σ : tk_S) (hR : Rel σ) : p_X7_things d [aN 0] σ (fun r σ1 => p_X8_things (d + 3) [aN 132] σ1 (fun r' σ2 => r = r' ∧ Rel σ2)) := by
  obtain ⟨a, hw, hX, hK, hF, hM⟩ := hR
  refine e_X7_things d (b_X7_things_0 d σ _ ?_)
  rw [hF.2.1]
  refine e_X8_things (d + 3) (b_X8_things_0 (d + 2) σ _ ?_)
  exact s_feels_a d a hw σ hM _ (fun σ1 f1 g1 c1 _ => ⟨by rw [c1], a, relM11 hw hX hK hF hM f1 g1⟩)
set_option maxHeartbeats 2000000 in
theorem step_thing (d : Nat) (x y : Int32) (σ : tk_S) (hR : Rel σ) : p_X7_thing d [aN 0, aI x, aI y] σ (fun r σ1 => p_X8_thing (d + 3) [aN 132, aI x, aI y] σ1 (fun r' σ2 => r = r' ∧ Rel σ2)) := by
  obtain ⟨a, hw, hX, hK, hF, hM⟩ := id hR
  have hN := hF.1
  -- the reference's part
  have ref : ∀ r : Int32, ((¬ ∃ i w : Nat, i < thingN (a 11) ∧ w ≤ 5 ∧ x = nI i ∧ y = nI w) → r = -1) → (∀ i w f v : Nat, i < thingN (a 11) → w ≤ 5 → x = nI i → y = nI w → thingP (a 11) i f → isFact (a 11) f w v → r = nI v) → p_X8_thing (d + 3) [aN 132, aI x, aI y] σ (fun r' σ2 => r = r' ∧ Rel σ2) := by
    intro r hno hyes
    refine e_X8_thing (d + 3) _ _ (b_X8_thing_0 (d + 2) _ _ σ _ ?_)
    refine s_feels_a d a hw σ hM _ (fun σ1 f1 g1 c1 l1 => ?_)
    have RR := relM11 hw hX hK hF hM f1 g1
    have c25 := c1
    rw [c1]
    have inx : ∀ (Q' : Int32 → tk_S → Prop), (∀ i : Nat, i < thingN (a 11) → x = nI i → Q' 1 σ1) → ((¬ ∃ i : Nat, i < thingN (a 11) ∧ x = nI i) → Q' 0 σ1) → p_X8_isIn (d + 2) [aI x, aI 0, aI (nI (thingN (a 11)) - 1)] σ1 Q' := by
      intro Q' hy hn
      rcases Nat.eq_zero_or_pos (thingN (a 11)) with z | z
      · rw [z]
        refine s_X8_isIn (d + 2) x _ _ σ1 _ (fun q1 q2 => ?_) (fun _ => hn (by rintro ⟨i, h, _⟩; omega))
        refine absurd ?_ q2
        rw [Int32.lt_iff_toInt_lt] at q1 ⊢
        have : (nI 0 - 1).toInt = -1 := by decide
        rw [this]
        rw [Int32.toInt_zero] at q1
        omega
      · rw [pre1 z]
        refine s_X8_isInN (d + 2) x 0 (thingN (a 11) - 1) (by omega) (by omega) σ1 _ (fun i _ h2 e => hy i (by omega) e) (fun q => hn (fun ⟨i, h1, h2⟩ => q ⟨i, Nat.zero_le _, by omega, h2⟩))
    refine inx _ (fun i hi ei => ⟨fun z => absurd z (by decide), fun _ => ?_⟩) (fun hn => ⟨fun _ => ⟨hno (fun ⟨i, w, h1, h2, h3, h4⟩ => hn ⟨i, h1, h3⟩), a, RR⟩, fun z => absurd rfl z⟩)
    refine s_X8_isInN (d + 2) y 0 5 (by omega) (by omega) σ1 _ (fun w _ hw5 ew => ⟨fun _ => ?_, fun z => absurd z (by decide)⟩) (fun hn => ⟨fun z => absurd rfl z, fun _ => ⟨hno (fun ⟨i, w, h1, h2, h3, h4⟩ => hn ⟨w, Nat.zero_le _, h2, h4⟩), a, RR⟩⟩)
    subst ei; subst ew
    obtain ⟨f, tf⟩ := thing_ex hi
    have hup := tf.2.1.1
    have of_iff : ∀ q, q < 576 → (σ1.1 151 q = nI i ↔ ofT (a 11) f q) := by
      intro q hq
      rcases l1 q hq with ⟨f', z1, z2, z3, z4⟩ | ⟨z1, z2⟩
      · have hc := cnt_n (fun q => pB (firstP (a 11) q)) f'
        rw [z4, nI_eq (by omega) (by omega)]
        constructor
        · intro e
          have := cnt_first_inj z2 tf.2.1 (by rw [e, tf.2.2])
          rw [← this]; exact z3
        · intro ho
          have : f' = f := first_uq z2 tf.2.1 (join_tr z3 (join_sym ho))
          rw [this]; exact tf.2.2
      · rw [z2]
        refine ⟨fun e => ?_, fun ho => absurd ho (z1 f tf.1 tf.2.1)⟩
        exfalso
        have h0 := nI_pos (n := i) (by omega)
        rw [← e] at h0; exact h0 (by decide)
    have U1 : ∀ q, q < 576 → σ1.1 150 q = nI (clampU (a 11) (q % 24) (q / 24)) := fun q hq => by
      unfold clampU
      rw [if_pos (by omega), f1 _ _ (by unfold fr11; omega)]
      have := hM.2.2.2.2.2.2.2.2 (q % 24) (q / 24) (by omega) (by omega)
      rw [show 24 * (q / 24) + q % 24 = q by omega] at this
      exact this
    have cl1 : ∀ x y, clampU (a 11) x y ≤ 1 := fun x y => by
      unfold clampU
      by_cases e : x < 24 ∧ y < 24
      · rw [if_pos e]; exact hw.2.2.2.2.2.2.2.2.2.2 x y e.1 e.2
      · rw [if_neg e]; omega
    have L := up_loop (fun m => ∀ v1 v2 v3 v4 : Nat, v1 ≤ 24 → v2 ≤ 24 → v3 ≤ 24 → v4 ≤ 24 → (∀ q, q < m → ofT (a 11) f q → v1 ≤ q % 24 ∧ v2 ≤ q / 24 ∧ q % 24 ≤ v3 ∧ q / 24 ≤ v4) → (v1 = 24 ∨ ∃ q, ofT (a 11) f q ∧ q % 24 = v1) → (v2 = 24 ∨ ∃ q, ofT (a 11) f q ∧ q / 24 = v2) → (v3 = 0 ∨ ∃ q, ofT (a 11) f q ∧ q % 24 = v3) → (v4 = 0 ∨ ∃ q, ofT (a 11) f q ∧ q / 24 = v4) → g_X8_thing (d + 3) 51 [(0, aN 132), (1, aI (nI i)), (2, aI (nI w)), (3, aI (nI (cnt (fun q => pB (ofT (a 11) f q)) m))), (4, aI (nI (cnt (fun q => pB (ofT (a 11) f q ∧ besN (a 11) q = 1)) m))), (5, aI (nI v1)), (6, aI (nI v2)), (7, aI (nI v3)), (8, aI (nI v4)), (9, aI (nI m))] σ1 (fun r' σ2 => r = r' ∧ Rel σ2)) 576 ?_ ?_
    · exact L 24 24 0 0 (by omega) (by omega) (by omega) (by omega) (fun q hq => by omega) (Or.inl rfl) (Or.inl rfl) (Or.inl rfl) (Or.inl rfl)
    · intro v1 v2 v3 v4 b1 b2 b3 b4 al a1 a2 a3 a4
      have self := al f tf.1 (join_rf hup)
      have pl := of_lt (join_rf hup : ofT (a 11) f f)
      have fin : ∀ v, isFact (a 11) f w v → r = nI v ∧ Rel σ1 := fun v hv => ⟨hyes i w f v hi hw5 rfl rfl tf hv, a, RR⟩
      refine b_X8_thing_51 (d + 2) _ _ _ _ _ _ _ _ _ σ1 _ ⟨fun _ => ?_, fun z => absurd (by decide) z⟩
      rw [show (0 : Int32) = nI 0 from rfl, show (1 : Int32) = nI 1 from rfl, show (2 : Int32) = nI 2 from rfl, show (3 : Int32) = nI 3 from rfl, show (4 : Int32) = nI 4 from rfl, nI_eq (by omega) (by omega), nI_eq (by omega) (by omega), nI_eq (by omega) (by omega), nI_eq (by omega) (by omega), nI_eq (by omega) (by omega)]
      refine ⟨fun n0 => ⟨fun n1 => ⟨fun n2 => ⟨fun n3 => ⟨fun n4 => fin _ ?_, fun e => fin _ ?_⟩, fun e => fin _ ?_⟩, fun e => fin _ ?_⟩, fun e => fin _ ?_⟩, fun e => fin _ ?_⟩
      · exact Or.inr (Or.inr (Or.inr (Or.inr (Or.inr ⟨by omega, rfl⟩))))
      · refine Or.inr (Or.inr (Or.inr (Or.inr (Or.inl ⟨e, ?_, fun q hq => (al q (of_lt hq).2.2 hq).2.2.2⟩))))
        rcases a4 with z | z
        · exact ⟨f, join_rf hup, by omega⟩
        · exact z
      · refine Or.inr (Or.inr (Or.inr (Or.inl ⟨e, ?_, fun q hq => (al q (of_lt hq).2.2 hq).2.2.1⟩)))
        rcases a3 with z | z
        · exact ⟨f, join_rf hup, by omega⟩
        · exact z
      · exact Or.inr (Or.inr (Or.inl ⟨e, a2.resolve_left (by omega), fun q hq => (al q (of_lt hq).2.2 hq).2.1⟩))
      · exact Or.inr (Or.inl ⟨e, a1.resolve_left (by omega), fun q hq => (al q (of_lt hq).2.2 hq).1⟩)
      · exact Or.inl ⟨e, rfl⟩
    · intro m hm ih v1 v2 v3 v4 b1 b2 b3 b4 al a1 a2 a3 a4
      have cm := cnt_n (fun q => pB (ofT (a 11) f q)) m
      refine b_X8_thing_51 (d + 2) _ _ _ _ _ _ _ _ _ σ1 _ ⟨fun z => absurd ((le_nI (n := 576) (by omega) (by omega)).mp z) (by omega), fun _ => ⟨vp_in_nI hm (by omega), ?_⟩⟩
      rw [nI_clamp (by omega), of_iff m hm]
      have cN : ∀ b, pB (ofT (a 11) f m) = b → cnt (fun q => pB (ofT (a 11) f q)) (m + 1) = cnt (fun q => pB (ofT (a 11) f q)) m + (if b then 1 else 0) := fun b hb => by
        show cnt (fun q => pB (ofT (a 11) f q)) m + (if pB (ofT (a 11) f m) then 1 else 0) = _
        rw [hb]
      have cE : ∀ b, pB (ofT (a 11) f m ∧ besN (a 11) m = 1) = b → cnt (fun q => pB (ofT (a 11) f q ∧ besN (a 11) q = 1)) (m + 1) = cnt (fun q => pB (ofT (a 11) f q ∧ besN (a 11) q = 1)) m + (if b then 1 else 0) := fun b hb => by
        show cnt (fun q => pB (ofT (a 11) f q ∧ besN (a 11) q = 1)) m + (if pB (ofT (a 11) f m ∧ besN (a 11) m = 1) then 1 else 0) = _
        rw [hb]
      refine ⟨fun ho => ?_, fun hno' => ?_⟩
      · refine s_X8_beside (d) (clampU (a 11)) cl1 m hm σ1 U1 _ ?_
        rw [clamp_bes]
        have bl : besN (a 11) m ≤ 576 := cnt_n _ _
        have go : ∀ e : Nat, e = cnt (fun q => pB (ofT (a 11) f q ∧ besN (a 11) q = 1)) (m + 1) → g_X8_thing (d + 3) 96 [(0, aN 132), (1, aI (nI i)), (2, aI (nI w)), (3, aI (nI (cnt (fun q => pB (ofT (a 11) f q)) m) + 1)), (4, aI (nI e)), (5, aI (nI v1)), (6, aI (nI v2)), (7, aI (nI v3)), (8, aI (nI v4)), (9, aI (nI m))] σ1 (fun r' σ2 => r = r' ∧ Rel σ2) := by
          intro e he
          have last : ∀ w1 w2 w3 w4 : Nat, w1 = min (m % 24) v1 → w2 = min (m / 24) v2 → w3 = max v3 (m % 24) → w4 = max v4 (m / 24) → g_X8_thing (d + 3) 51 [(0, aN 132), (1, aI (nI i)), (2, aI (nI w)), (3, aI (nI (cnt (fun q => pB (ofT (a 11) f q)) m) + 1)), (4, aI (nI e)), (5, aI (nI w1)), (6, aI (nI w2)), (7, aI (nI w3)), (8, aI (nI w4)), (9, aI (nI m + 1))] σ1 (fun r' σ2 => r = r' ∧ Rel σ2) := by
            intro w1 w2 w3 w4 e1 e2 e3 e4
            have := ih w1 w2 w3 w4 (by omega) (by omega) (by omega) (by omega) (fun q hq hoq => by
              by_cases z : q = m
              · subst z; omega
              · have := al q (by omega) hoq; omega) (by
              rcases Nat.lt_or_ge (m % 24) v1 with z | z
              · exact Or.inr ⟨m, ho, by omega⟩
              · rw [e1, Nat.min_eq_right z]; exact a1) (by
              rcases Nat.lt_or_ge (m / 24) v2 with z | z
              · exact Or.inr ⟨m, ho, by omega⟩
              · rw [e2, Nat.min_eq_right z]; exact a2) (by
              rcases Nat.lt_or_ge v3 (m % 24) with z | z
              · exact Or.inr ⟨m, ho, by omega⟩
              · rw [e3, Nat.max_eq_left z]; exact a3) (by
              rcases Nat.lt_or_ge v4 (m / 24) with z | z
              · exact Or.inr ⟨m, ho, by omega⟩
              · rw [e4, Nat.max_eq_left z]; exact a4)
            rw [cN true (pB_t.mpr ho), ← he] at this
            rw [nI_1, nI_1]
            exact this
          have mid : ∀ w1 w2 : Nat, w1 = min (m % 24) v1 → w2 = min (m / 24) v2 → g_X8_thing (d + 3) 140 [(0, aN 132), (1, aI (nI i)), (2, aI (nI w)), (3, aI (nI (cnt (fun q => pB (ofT (a 11) f q)) m) + 1)), (4, aI (nI e)), (5, aI (nI w1)), (6, aI (nI w2)), (7, aI (nI v3)), (8, aI (nI v4)), (9, aI (nI m))] σ1 (fun r' σ2 => r = r' ∧ Rel σ2) := by
            intro w1 w2 e1 e2
            refine b_X8_thing_140 (d + 2) _ _ _ _ _ _ _ _ _ σ1 _ ?_
            rw [rem24 m (by omega), div24 m (by omega), le_nI (by omega) (by omega), le_nI (by omega) (by omega)]
            refine ⟨fun q1 => ⟨fun q2 => last _ _ _ _ e1 e2 (by omega) (by omega), fun q2 z3 e3 => ?_⟩, fun q1 z4 e4 => ⟨fun q2 => ?_, fun q2 z6 e6 => ?_⟩⟩
            · subst e3; exact last _ _ _ _ e1 e2 (by omega) (by omega)
            · subst e4; exact last _ _ _ _ e1 e2 (by omega) (by omega)
            · subst e4; subst e6; exact last _ _ _ _ e1 e2 (by omega) (by omega)
          refine b_X8_thing_96 (d + 2) _ _ _ _ _ _ _ _ _ σ1 _ ?_
          rw [rem24 m (by omega), div24 m (by omega), le_nI (by omega) (by omega), le_nI (by omega) (by omega)]
          refine ⟨fun q1 => ⟨fun q2 => mid _ _ (by omega) (by omega), fun q2 z3 e3 => ?_⟩, fun q1 z4 e4 => ⟨fun q2 => ?_, fun q2 z6 e6 => ?_⟩⟩
          · subst e3; exact mid _ _ (by omega) (by omega)
          · subst e4; exact mid _ _ (by omega) (by omega)
          · subst e4; subst e6; exact mid _ _ (by omega) (by omega)
        rw [show (1 : Int32) = nI 1 from rfl, nI_eq (by omega) (by omega)]
        refine ⟨fun q => ?_, fun q => ?_⟩
        · rw [show nI (cnt (fun q => pB (ofT (a 11) f q ∧ besN (a 11) q = 1)) m) + 0 = nI (cnt (fun q => pB (ofT (a 11) f q ∧ besN (a 11) q = 1)) m + 0) from nI_add _ 0]
          exact go _ (cE false (pB_f.mpr (fun v => q v.2))).symm
        · rw [nI_add (cnt (fun q => pB (ofT (a 11) f q ∧ besN (a 11) q = 1)) m) 1]
          exact go _ (cE true (pB_t.mpr ⟨ho, q⟩)).symm
      · have := ih v1 v2 v3 v4 b1 b2 b3 b4 (fun q hq hoq => by
          by_cases z : q = m
          · subst z; exact absurd hoq hno'
          · exact al q (by omega) hoq) a1 a2 a3 a4
        rw [cN false (pB_f.mpr hno'), cE false (pB_f.mpr (fun v => hno' v.1))] at this
        rw [nI_1]
        exact this
  refine e_X7_thing d _ _ (b_X7_thing_0 d _ _ σ _ ?_)
  rw [hF.2.1]
  have none : (¬ ∃ i w : Nat, i < thingN (a 11) ∧ w ≤ 5 ∧ x = nI i ∧ y = nI w) → p_X8_thing (d + 3) [aN 132, aI x, aI y] σ (fun r' σ2 => -1 = r' ∧ Rel σ2) := fun q => ref (-1) (fun _ => rfl) (fun i w f v h1 h2 h3 h4 _ _ => absurd ⟨i, w, h1, h2, h3, h4⟩ q)
  refine ⟨fun q => none ?_, fun q1 => ⟨fun q => none ?_, fun q2 => ⟨fun q => none ?_, fun q3 => ⟨fun q4 => ?_, fun q => none ?_⟩⟩⟩⟩
  · rintro ⟨i, w, h1, h2, h3, h4⟩; rw [h3] at q; exact nI_pos (by omega) q
  · rintro ⟨i, w, h1, h2, h3, h4⟩; rw [h3, le_nI (by omega) (by omega)] at q; omega
  · rintro ⟨i, w, h1, h2, h3, h4⟩; rw [h4] at q; exact nI_pos (by omega) q
  · obtain ⟨i, hi, rfl⟩ : ∃ i : Nat, i < thingN (a 11) ∧ x = nI i := by
      obtain ⟨i, i1, i2⟩ := nI_of q1
      rw [i2, le_nI (by omega) i1] at q2
      exact ⟨i, by omega, i2⟩
    obtain ⟨w, hw6, rfl⟩ : ∃ w : Nat, w < 6 ∧ y = nI w := by
      obtain ⟨w, w1, w2⟩ := nI_of q3
      rw [w2] at q4
      exact ⟨w, (lt_nI (k := 6) w1 (by omega)).mp q4, w2⟩
    refine ⟨vp_in_nI (by omega) (by omega), vp_in_nI hw6 (by omega), ?_⟩
    rw [nI_clamp (by omega), nI_clamp (by omega), show 59 + 1 + 1 * i = 60 + i by omega]
    obtain ⟨f, tf⟩ := thing_ex hi
    obtain ⟨v, v1, v2⟩ := hF.2.2 i f tf w hw6
    rw [v1]
    refine ref (nI v) (fun q => absurd ⟨i, w, hi, by omega, rfl, rfl⟩ q) (fun i' w' f' v' h1 h2 h3 h4 h5 h6 => ?_)
    have ei : i = i' := (nI_eq (by omega) (by omega)).mp h3
    have ew : w = w' := (nI_eq (by omega) (by omega)).mp h4
    subst ei; subst ew
    have ef : f = f' := cnt_first_inj tf.2.1 h5.2.1 (by rw [tf.2.2, h5.2.2])
    subst ef
    rw [fact_uq v2 h6]
  · rintro ⟨i, w, h1, h2, h3, h4⟩
    refine q ?_
    rw [h4]
    exact (lt_nI (k := 6) (by omega) (by omega)).mpr (by omega)
