/-! SIMPLER: the class' way -/
theorem dpOK_c {st : Nat → Nat → Prop} {n i : Nat} {F F' N N' : Nat → Nat} (hF : ∀ j, i ≤ j → F' j = F j) (hN : N' i = N i) (h : dpOK st n F N i) : dpOK st n F' N' i := by
  obtain ⟨h1, h2, h3, h4, h5⟩ := h
  refine ⟨by rw [hN]; exact h1, by rw [hN]; exact h2, by rw [hN]; exact h3, by rw [hN, hF i (Nat.le_refl _), hF _ (by omega)]; exact h4, fun j q1 q2 q3 => ?_⟩
  rw [hF i (Nat.le_refl _), hF j (by omega), hN]
  exact h5 j q1 q2 q3
/-- from m on, all is found -/
def dpS (st : Nat → Nat → Prop) (n : Nat) (F N : Nat → Nat) (m : Nat) (σ : tk_S) : Prop := (∀ j, m ≤ j → j < n → σ.1 21 j = nI (F j) ∧ σ.1 22 j = nI (N j)) ∧ (m < n → F (n - 1) = 1) ∧ (∀ j, m ≤ j → j < n → F j ≤ n - j) ∧ ∀ j, m ≤ j → j < n - 1 → dpOK st n F N j
def u1 (F : Nat → Nat) (m v : Nat) : Nat → Nat := fun j => if j = m then v else F j
theorem u1_s (F : Nat → Nat) (m v : Nat) : u1 F m v m = v := if_pos rfl
theorem u1_o (F : Nat → Nat) {m v j : Nat} (h : j ≠ m) : u1 F m v j = F j := if_neg h
theorem bt_one (c : Nat) : bt 1 c = decide (c = 0) := by
  rw [show (1 : Int32) = (1 : Int32) <<< (nI 0 &&& 31) from by decide, bt_1 (by omega)]
set_option maxHeartbeats 1000000 in
theorem s_walk (d : Nat) (st : Nat → Nat → Prop) (n : Nat) (hn : n ≤ 8) (F N : Nat → Nat) (σ : tk_S) (hS : dpS st n F N 0 σ) : ∀ m i, m = n - i → i < n → ∃ S, simB st n i S ∧ cnt S n = F i ∧ ∀ (acc : Int32) (k : Nat) (Q : Int32 → tk_S → Prop), k + (n - 1 - i) ≤ 8 → bt acc i = true → (∀ r : Int32, (∀ c, c < 32 → bt r c = (bt acc c || S c)) → Q r σ) → g_X4_walk d 7 [(0, aN 20), (1, aI (nI (n - 1))), (2, aI acc), (3, aI (nI i)), (4, aI (nI k))] σ Q := by
  intro m
  induction m using Nat.strongRecOn with
  | _ m ih =>
    intro i hm hi
    by_cases e : i + 1 = n
    · obtain ⟨q1, q2⟩ := sim_last st e
      refine ⟨_, q1, by rw [q2, show i = n - 1 by omega, hS.2.1 (by omega)], fun acc k Q hk ha h => ?_⟩
      have fin : Q acc σ := h acc (fun c _ => by
        by_cases z : c = i
        · subst z; rw [ha]; rfl
        · rw [decide_eq_false z, Bool.or_false])
      exact b_X4_walk_7 d _ _ _ _ σ Q ⟨fun _ => fin, fun _ => ⟨fun _ => fin, fun c => absurd ((le_nI (by omega) (by omega)).mpr (by omega)) c⟩⟩
    · have hd := hS.2.2.2 i (by omega) (by omega)
      obtain ⟨S, s1, s2, s3⟩ := ih (n - N i) (by have := hd.1; have := hd.2.1; omega) (N i) rfl hd.2.1
      obtain ⟨q1, q2⟩ := sim_step hd (fun j h1 h2 => by
        obtain ⟨S', a1, a2, _⟩ := ih (n - j) (by omega) j rfl h2
        exact ⟨S', a1, a2⟩) s1 s2
      refine ⟨_, q1, q2, fun acc k Q hk ha h => ?_⟩
      have hd1 := hd.1
      have hd2 := hd.2.1
      refine b_X4_walk_7 d _ _ _ _ σ Q ⟨fun c => absurd ((le_nI (n := 8) (by omega) (by omega)).mp c) (by omega), fun _ => ⟨fun c => absurd ((le_nI (by omega) (by omega)).mp c) (by omega), fun _ => ⟨vp_in_nI (by omega) (by omega), fun z4 e4 z5 e5 => ?_⟩⟩⟩
      rw [nI_clamp (by omega), (hS.1 i (by omega) hi).2] at e4
      subst e4
      have b5 : ∀ c, c < 32 → bt z5 c = (bt acc c || decide (c = N i)) := fun c _ => by rw [e5, b_or, bt_1 (by omega)]
      rw [nI_1]
      refine s3 z5 (k + 1) Q (by omega) (by rw [b5 _ (by omega), decide_eq_true rfl, Bool.or_true]) (fun r hr => h r (fun c hc => ?_))
      rw [hr c hc, b5 c hc]
      by_cases z : c = i
      · subst z; rw [ha]; simp
      · by_cases z2 : c = N i
        · subst z2; rw [s1.1.2.1]; simp
        · simp [z, z2]
set_option maxHeartbeats 4000000 in
theorem s_X4_fewest (d k : Nat) (hk : tk_sh k = tk_shape) (hk72 : 72 ≤ k) (a : Ab) (i : Nat) (hW : WFs a i) (σ : tk_S) (hC : xco a σ k i) (b : Nat) (hb : b ≤ 30) (Q : Int32 → tk_S → Prop) (h : ∀ σ' S, Fr (fun k _ => k = 21 ∨ k = 22) σ σ' → σ'.2 = σ.2 → S < 2 ^ aNc a i → simB (stepP a i b) (aNc a i) 0 (fun c => S.testBit c) → Q (nI S) σ') : p_X4_fewest (d + 2) [aN 20, aN k, aI (nI b)] σ Q := by
  have w4 := hW.2.2.2.1
  have w5 := hW.2.2.2.2.1
  generalize en : aNc a i = n at *
  refine e_X4_fewest (d + 2) k _ (b_X4_fewest_0 (d + 1) k hk _ σ Q (fun z1 e1 => ?_))
  rw [hC.2.1, en, show (1 : Int32) = nI 1 from rfl, pk_sub w4] at e1
  subst e1
  have main : ∀ m, m ≤ n → ∀ σ', Fr (fun k _ => k = 21 ∨ k = 22) σ σ' → σ'.2 = σ.2 → (∃ F N, dpS (stepP a i b) n F N m σ') → g_X4_fewest (d + 2) 10 [(0, aN 20), (1, aN k), (2, aI (nI b)), (3, aI (nI (n - 1))), (4, aI (iI ((m : Int) - 1)))] σ' Q := by
    intro m
    induction m with
    | zero =>
      rintro - σ' f' g' ⟨F, N, hS⟩
      refine b_X4_fewest_10 (d + 1) k hk _ _ _ σ' Q ⟨fun _ => ?_, fun c => absurd (by decide) c⟩
      obtain ⟨S, s1, s2, s3⟩ := s_walk (d + 1) _ n w5 F N σ' hS n 0 (by omega) (by omega)
      refine e_X4_walk (d + 1) _ (b_X4_walk_0 (d + 1) _ σ' _ ?_)
      refine s3 1 0 _ (by omega) (by decide) (fun r hr => ?_)
      have eb : ∀ c, (num S n).testBit c = S c := fun c => by
        rw [num_bit]
        cases z : S c
        · simp
        · simp [(s1.1.1 c z).2]
      have er : r = nI (num S n) := b_ext (fun c hc => by
        rw [hr c hc, bt_nI _ hc, eb, bt_one]
        by_cases z : c = 0
        · subst z; rw [s1.1.2.1]; rfl
        · rw [decide_eq_false z, Bool.false_or])
      rw [er]
      exact h σ' (num S n) f' g' (num_lt S n) (by rw [show (fun c => (num S n).testBit c) = S from funext eb]; exact s1)
    | succ m ih =>
      rintro hm σ' f' g' ⟨F, N, hS⟩
      rw [show iI (((m + 1 : Nat) : Int) - 1) = nI m by rw [nI_iI]; congr 1; omega]
      have inn : ∀ j, m + 1 ≤ j → j ≤ n → ∀ σ2 v w, Fr (fun k _ => k = 21 ∨ k = 22) σ σ2 → σ2.2 = σ.2 → (∀ j', m + 1 ≤ j' → j' < n → σ2.1 21 j' = nI (F j') ∧ σ2.1 22 j' = nI (N j')) → σ2.1 21 m = nI v → σ2.1 22 m = nI w → ((m + 1 = n ∧ v = 1) ∨ (j = m + 1 ∧ v = 9 ∧ m + 1 ≠ n) ∨ (m < w ∧ w < j ∧ stepP a i b m w ∧ v = F w + 1)) → (∀ j', m < j' → j' < j → stepP a i b m j' → v ≤ F j' + 1 ∧ (v = F j' + 1 → w ≤ j')) → g_X4_fewest (d + 2) 48 [(0, aN 20), (1, aN k), (2, aI (nI b)), (3, aI (nI (n - 1))), (4, aI (nI m)), (5, aI (nI j))] σ2 Q := by
        intro j hj1 hjn
        refine up_from (fun j => ∀ σ2 v w, Fr (fun k _ => k = 21 ∨ k = 22) σ σ2 → σ2.2 = σ.2 → (∀ j', m + 1 ≤ j' → j' < n → σ2.1 21 j' = nI (F j') ∧ σ2.1 22 j' = nI (N j')) → σ2.1 21 m = nI v → σ2.1 22 m = nI w → ((m + 1 = n ∧ v = 1) ∨ (j = m + 1 ∧ v = 9 ∧ m + 1 ≠ n) ∨ (m < w ∧ w < j ∧ stepP a i b m w ∧ v = F w + 1)) → (∀ j', m < j' → j' < j → stepP a i b m j' → v ≤ F j' + 1 ∧ (v = F j' + 1 → w ≤ j')) → g_X4_fewest (d + 2) 48 [(0, aN 20), (1, aN k), (2, aI (nI b)), (3, aI (nI (n - 1))), (4, aI (nI m)), (5, aI (nI j))] σ2 Q) n j hjn ?_ ?_
        · intro σ2 v w f2 g2 hF2 c1 c2 hv hj
          refine b_X4_fewest_48 (d + 1) k hk _ _ _ _ σ2 Q ⟨fun _ => ?_, fun c => absurd ((lt_nI (by omega) (by omega)).mpr (by omega)) c⟩
          rw [show nI m + (-1) = iI ((m : Int) - 1) by rw [nI_iI, show (-1 : Int32) = iI (-1) from rfl, iI_add]; congr 1]
          have hv' : (m + 1 = n ∧ v = 1) ∨ (m < w ∧ w < n ∧ stepP a i b m w ∧ v = F w + 1) := by
            rcases hv with q | q | q
            · exact Or.inl q
            · omega
            · exact Or.inr q
          refine ih (by omega) σ2 f2 g2 ⟨u1 F m v, u1 N m w, fun j h1 h2 => ?_, fun h1 => ?_, fun j h1 h2 => ?_, fun j h1 h2 => ?_⟩
          · by_cases z : j = m
            · subst z; rw [u1_s, u1_s]; exact ⟨c1, c2⟩
            · rw [u1_o _ z, u1_o _ z]; exact hF2 j (by omega) h2
          · by_cases z : n - 1 = m
            · rw [z, u1_s]
              rcases hv' with q | q
              · exact q.2
              · omega
            · rw [u1_o _ z]; exact hS.2.1 (by omega)
          · by_cases z : j = m
            · subst z
              rw [u1_s]
              rcases hv' with q | ⟨q1, q2, q3, q4⟩
              · omega
              · have := hS.2.2.1 w (by omega) q2; omega
            · rw [u1_o _ z]; exact hS.2.2.1 j (by omega) h2
          · by_cases z : j = m
            · subst z
              rcases hv' with q | ⟨q1, q2, q3, q4⟩
              · omega
              · refine ⟨by rw [u1_s]; exact q1, by rw [u1_s]; exact q2, by rw [u1_s]; exact q3, ?_, fun j' h3 h4 h5 => ?_⟩
                · rw [u1_s, u1_s, u1_o _ (by omega)]; exact q4
                · rw [u1_s, u1_s, u1_o _ (by omega)]; exact hj j' h3 h4 h5
            · exact dpOK_c (fun j' h3 => u1_o _ (by omega)) (u1_o _ z) (hS.2.2.2 j (by omega) h2)
        · intro j hj1 hjn ihj σ2 v w f2 g2 hF2 c1 c2 hv hj
          have hFj := hS.2.2.1 j (by omega) hjn
          have hjn' : m + 1 < n := by omega
          have hmn : m + 1 ≠ n := by omega
          have hv9 : v ≤ 9 := by
            rcases hv with q | q | ⟨q1, q2, q3, q4⟩
            · omega
            · omega
            · have := hS.2.2.1 w (by omega) (by omega); omega
          refine b_X4_fewest_48 (d + 1) k hk _ _ _ _ σ2 Q ⟨fun c => absurd ((lt_nI (by omega) (by omega)).mp c) (by omega), fun _ => ⟨vp_in_nI (by omega) (by omega), vp_in_nI (by omega) (by omega), ?_⟩⟩
          rw [nI_clamp (by omega), nI_clamp (by omega), c1, (hF2 j (by omega) hjn).1, nI_1, nI_1]
          refine ⟨fun c => ?_, fun c => ?_⟩
          · have hle := (le_nI (by omega) (by omega)).mp c
            refine ihj σ2 v w f2 g2 hF2 c1 c2 ?_ (fun j' h1 h2 h3 => ?_)
            · rcases hv with q | q | ⟨q1, q2, q3, q4⟩
              · exact Or.inl q
              · omega
              · exact Or.inr (Or.inr ⟨q1, by omega, q3, q4⟩)
            · by_cases z : j' = j
              · subst z
                refine ⟨hle, fun _ => ?_⟩
                rcases hv with q | q | ⟨q1, q2, q3, q4⟩ <;> omega
              · exact hj j' h1 (by omega) h3
          · have hlt : F j + 1 < v := by
              rcases Nat.lt_or_ge (F j + 1) v with q | q
              · exact q
              · exact absurd ((le_nI (by omega) (by omega)).mpr q) c
            refine s_X4_canStep d k hk a i hW σ2 ⟨by rw [f2 _ _ (by omega)]; exact hC.1, by rw [f2 _ _ (by omega)]; exact hC.2.1, fun j' h' => by rw [f2 _ _ (by omega), f2 _ _ (by omega)]; exact hC.2.2 j' h'⟩ m j b (by omega) (by omega) hb _ ⟨fun c3 => ?_, fun c3 => ⟨vp_in_nI (by omega) (by omega), vp_in_nI (by omega) (by omega), vp_in_nI (by omega) (by omega), fun σ12 e12 => ?_⟩⟩
            · have nst := pB_f.mp (b2i_0.mp c3)
              refine ihj σ2 v w f2 g2 hF2 c1 c2 ?_ (fun j' h1 h2 h3 => ?_)
              · rcases hv with q | q | ⟨q1, q2, q3, q4⟩
                · exact Or.inl q
                · exact absurd (fun c h1 h2 => by omega : stepP a i b m j) nst
                · exact Or.inr (Or.inr ⟨q1, by omega, q3, q4⟩)
              · by_cases z : j' = j
                · subst z; exact absurd h3 nst
                · exact hj j' h1 (by omega) h3
            · have stj := pB_t.mp (b2i_n.mp c3)
              rw [(hF2 j (by omega) hjn).1, nI_1] at e12
              have rd : ∀ k' j', ¬ ((k' = 21 ∨ k' = 22) ∧ j' = m) → σ12.1 k' j' = σ2.1 k' j' := fun k' j' hq => by rw [e12, rd_o' (by omega), rd_o' (by omega)]
              refine ihj σ12 (F j + 1) j (fun k' j' hq => ?_) (by rw [e12]; exact g2) (fun j' h1 h2 => ?_) (by rw [e12, rd_o' (by omega), rd_s']) (by rw [e12, rd_s']) (Or.inr (Or.inr ⟨by omega, by omega, stj, rfl⟩)) (fun j' h1 h2 h3 => ?_)
              · rw [rd _ _ (fun q => hq q.1)]; exact f2 k' j' hq
              · rw [rd _ _ (by omega), rd _ _ (by omega)]; exact hF2 j' h1 h2
              · by_cases z : j' = j
                · subst z; omega
                · have := hj j' h1 (by omega) h3; omega
      refine b_X4_fewest_10 (d + 1) k hk _ _ _ σ' Q ⟨fun c => absurd ((lt_nI (k := 0) (by omega) (by omega)).mp c) (by omega), fun _ => ⟨fun c => ⟨vp_in_nI (by omega) (by omega), vp_in_nI (by omega) (by omega), fun σ8 e8 => ?_⟩, fun c => ⟨vp_in_nI (by omega) (by omega), vp_in_nI (by omega) (by omega), fun σ8 e8 => ?_⟩⟩⟩
      all_goals
        rw [nI_clamp (by omega)] at e8
        have rd : ∀ k' j', ¬ ((k' = 21 ∨ k' = 22) ∧ j' = m) → σ8.1 k' j' = σ'.1 k' j' := fun k' j' hq => by rw [e8, rd_o' (by omega), rd_o' (by omega)]
        rw [nI_1]
      · have hmn : m ≠ n - 1 := fun q => c (by rw [q])
        refine inn (m + 1) (by omega) (by omega) σ8 9 (n - 1) (fun k' j' hq => ?_) (by rw [e8]; exact g') (fun j' h1 h2 => ?_) (by rw [e8, rd_o' (by omega), rd_s']; rfl) (by rw [e8, rd_s']) (Or.inr (Or.inl ⟨rfl, rfl, by omega⟩)) (fun j' h1 h2 => by omega)
        · rw [rd _ _ (fun q => hq q.1)]; exact f' k' j' hq
        · rw [rd _ _ (by omega), rd _ _ (by omega)]; exact hS.1 j' h1 h2
      · have hmn : m = n - 1 := (nI_eq (by omega) (by omega)).mp c
        refine inn (m + 1) (by omega) (by omega) σ8 1 (n - 1) (fun k' j' hq => ?_) (by rw [e8]; exact g') (fun j' h1 h2 => by omega) (by rw [e8, rd_o' (by omega), rd_s']; rfl) (by rw [e8, rd_s']) (Or.inl ⟨by omega, rfl⟩) (fun j' h1 h2 => by omega)
        rw [rd _ _ (fun q => hq q.1)]; exact f' k' j' hq
  rw [show nI (n - 1) = iI ((n : Int) - 1) by rw [nI_iI]; congr 1; omega]
  have := main n (Nat.le_refl _) σ (Fr.rf σ) rfl ⟨fun _ => 0, fun _ => 0, fun j h1 h2 => by omega, fun h1 => by omega, fun j h1 h2 => by omega, fun j h1 h2 => by omega⟩
  rw [show nI (n - 1) = iI ((n : Int) - 1) by rw [nI_iI]; congr 1; omega] at this
  exact this
