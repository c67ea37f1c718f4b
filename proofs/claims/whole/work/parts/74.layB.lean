/-! SHEETS: the class' way, the reference's way, the steps -/
theorem inj_cnt (n : Nat) (c : Nat → Nat) : ∀ m (S : Nat → Bool), (∀ i, i < n → S i = true → c i < m) → (∀ i j, i < n → j < n → S i = true → S j = true → i ≠ j → c i ≠ c j) → cnt S n ≤ m := by
  intro m
  induction m with
  | zero =>
    intro S h _
    rw [cnt_up (m := 0) S (by omega) (fun i _ hi => by
      cases e : S i
      · rfl
      · exact absurd (h i hi e) (by omega))]
    exact Nat.le_refl _
  | succ m ih =>
    intro S h hi
    by_cases e : ∃ i, i < n ∧ S i = true ∧ c i = m
    · obtain ⟨i, i1, i2, i3⟩ := e
      rw [cnt_wout S i i2 n i1]
      have wS : ∀ j, wout S i j = true → S j = true ∧ j ≠ i := fun j hj => by
        unfold wout at hj
        rw [Bool.and_eq_true] at hj
        exact ⟨hj.1, of_decide_eq_true hj.2⟩
      have := ih (wout S i) (fun j hj hs => by
        obtain ⟨q1, q2⟩ := wS j hs
        have q3 := h j hj q1
        have q4 := hi i j i1 hj i2 q1 (fun z => q2 z.symm)
        omega) (fun j k hj hk hs ht hne => hi j k hj hk (wS j hs).1 (wS k ht).1 hne)
      omega
    · have := ih S (fun j hj hs => by
        have q3 := h j hj hs
        have : c j ≠ m := fun z => e ⟨j, hj, hs, z⟩
        omega) hi
      omega
theorem sum_one (S : Nat → Bool) : ∀ n, sumB S (fun _ => 1) n = cnt S n := by
  intro n
  induction n with
  | zero => rfl
  | succ n ih => show sumB S (fun _ => 1) n + (if S n then 1 else 0) = cnt S n + (if S n then 1 else 0); rw [ih]
/-- as many sheets as any two of which are near -/
theorem clique_no {a : Ab} {B : Nat → Nat → Bool} (hB : ∀ i, i < aN0 a → ∀ j, j < 32 → B i j = !(pB (j < aN0 a ∧ nearP a i j))) (hn : aN0 a ≤ 12) (hs : ∀ i j, i < aN0 a → j < aN0 a → nearP a i j → nearP a j i) {F : Nat → Bool} {M : Nat} (h : isMax F B (fun _ => 1) (aN0 a) M) : M ≤ aN0 a ∧ ∀ m c, m < M → ¬ colOK a m c := by
  obtain ⟨⟨S, s1, s2⟩, -⟩ := h
  rw [sum_one] at s2
  refine ⟨by rw [← s2]; exact cnt_n S _, fun m c hm hc => ?_⟩
  have := inj_cnt (aN0 a) c m S (fun i hi _ => hc.1 i hi) (fun i j hi hj hsi hsj hne => by
    have key : ∀ x y, x < aN0 a → y < aN0 a → S x = true → S y = true → y < x → nearP a x y := by
      intro x y hx hy sx sy hyx
      have := (s1 x sx).2.2 y hyx sy
      rw [hB x hx y (by omega)] at this
      have : pB (y < aN0 a ∧ nearP a x y) = true := by
        cases e : pB (y < aN0 a ∧ nearP a x y)
        · rw [e] at this; cases this
        · rfl
      exact (pB_t.mp this).2
    rcases Nat.lt_trichotomy i j with q | q | q
    · exact hc.2 i j hi hj (hs j i hj hi (key j i hj hi hsj hsi q))
    · exact absurd q hne
    · exact hc.2 i j hi hj (key i j hi hj hsi hsj q))
  omega
theorem col_id {a : Ab} : colOK a (aN0 a) (fun i => i) := ⟨fun _ hi => hi, fun _ _ _ _ h => h.1⟩
theorem col_mono {a : Ab} {m m' : Nat} {c : Nat → Nat} (h : colOK a m c) (hm : m ≤ m') : colOK a m' c := ⟨fun i hi => Nat.lt_of_lt_of_le (h.1 i hi) hm, h.2⟩
theorem lay_of {a : Ab} {m : Nat} {c : Nat → Nat} (h : lsE a m 0 (fun _ => 0) c) (hno : ∀ m' c', m' < m → ¬ colOK a m' c') : isLay a m c := ⟨h.1.2, hno, fun c' hc' => h.2 c' ⟨fun j hj => by omega, hc'⟩⟩
theorem lex_as {n : Nat} {c c' : Nat → Nat} (h : lexLE n c c') (h2 : lexLE n c' c) : ∀ i, i < n → c i = c' i := by
  rcases h with q | ⟨i, i1, i2, i3⟩
  · exact q
  · rcases h2 with q | ⟨j, j1, j2, j3⟩
    · exact fun i hi => (q i hi).symm
    · rcases Nat.lt_trichotomy i j with z | z | z
      · have := j3 i z; omega
      · subst z; omega
      · have := i3 j z; omega
theorem lay_uq {a : Ab} {m m' : Nat} {c c' : Nat → Nat} (h : isLay a m c) (h2 : isLay a m' c') : m = m' ∧ ∀ i, i < aN0 a → c i = c' i := by
  have e : m = m' := by
    rcases Nat.lt_trichotomy m m' with q | q | q
    · exact absurd h.1 (h2.2.1 m c q)
    · exact q
    · exact absurd h2.1 (h.2.1 m' c' q)
  subst e
  exact ⟨rfl, lex_as (h.2.2 c' h2.1) (h2.2.2 c h.1)⟩
def frY : Nat → Nat → Prop := fun k j => (k = 25 ∧ j = 4) ∨ (26 ≤ k ∧ k ≤ 29)
set_option maxHeartbeats 1000000 in
theorem s_layOn (d : Nat) (a : Ab) (hw : WF a) (m : Nat) (hm : m ≤ 12) (σ : tk_S) (hn : nearC a σ 51 (aN0 a)) (Q : Int32 → tk_S → Prop) (h1 : ∀ σ' c', Fr frL σ σ' → σ'.2 = σ.2 → lsE a m 0 (fun _ => 0) c' → (∀ j, j < aN0 a → σ'.1 29 j = nI (c' j)) → Q 1 σ') (h0 : ∀ σ', Fr frL σ σ' → σ'.2 = σ.2 → (∀ c', ¬ colOK a m c') → Q 0 σ') : p_X5_layOn (d + 14) [aN 25, aI (nI m), aN 51, aI (nI (aN0 a))] σ Q := by
  have hn12 := hw.1
  refine e_X5_layOn (d + 14) _ _ (b_X5_layOn_0 (d + 13) _ _ σ Q ?_)
  have L := up_loop (fun s => g_X5_layOn (d + 14) 3 [(0, aN 25), (1, aI (nI m)), (2, aN 51), (3, aI (nI (aN0 a))), (4, aI (nI s))] (tk_fill σ 26 s (fun _ => 0)) Q) m ?_ ?_
  · rw [tk_fill_0] at L
    exact L
  · refine b_X5_layOn_3 (d + 13) _ _ _ _ Q ⟨fun _ => ?_, fun q => absurd ((le_nI (by omega) (by omega)).mpr (Nat.le_refl _)) q⟩
    generalize e1 : tk_fill σ 26 m (fun _ => 0) = σ1
    have f1 : Fr frL σ σ1 := by rw [← e1]; exact Fr.fill σ _ (fun j => by unfold frL; omega)
    have g1 : σ1.2 = σ.2 := by rw [← e1]; rfl
    obtain ⟨d', hd'⟩ : ∃ d', d + 13 = d' + aN0 a + 1 := ⟨d + 12 - aN0 a, by omega⟩
    rw [hd']
    refine s_place a hw m hm (aN0 a) 0 rfl d' (fun _ => 0) 0 σ1 _ (fun i hi j => by rw [f1 51 i (by unfold frL; omega)]; exact hn i hi j) ⟨fun j hj => by omega, fun j k hj => by omega⟩ (fun j hj => by omega) (by omega) (fun s hs b => ?_) (fun j hj => by omega) (fun σ2 c' f2 g2 l2 c2 => ⟨rfl, h1 σ2 c' (f1.tr f2) (g2.trans g1) l2 c2⟩) (fun σ2 f2 g2 _ _ nx => ⟨rfl, h0 σ2 (f1.tr f2) (g2.trans g1) (fun c' hc => nx c' ⟨fun j hj => by omega, hc⟩)⟩)
    rw [← e1, tk_fill_s]
    show bt (if s < m then 0 else σ.1 26 s) b = _
    rw [if_pos hs, b_0, decide_eq_false (by omega)]
  · intro s hs ih
    refine b_X5_layOn_3 (d + 13) _ _ _ _ Q ⟨fun q => absurd ((le_nI (by omega) (by omega)).mp q) (by omega), fun _ => ⟨vp_in_nI (by omega) (by omega), ?_⟩⟩
    rw [nI_clamp (by omega), nI_1, tk_fill_up _ _ _ _ rfl]
    exact ih
set_option maxHeartbeats 1000000 in
theorem s_X5_lay (d : Nat) (a : Ab) (hw : WF a) (σ : tk_S) (hn : nearC a σ 51 (aN0 a)) (Q : tk_S → Prop) (h : ∀ σ' m c, Fr frY σ σ' → σ'.2 = σ.2 → isLay a m c → σ'.1 25 4 = nI m → (∀ i, i < aN0 a → σ'.1 29 i = nI (c i)) → Q σ') : p_X5_lay (d + 15) [aN 25, aN 51, aI (nI (aN0 a))] σ Q := by
  have hn12 := hw.1
  refine e_X5_lay (d + 15) _ (b_X5_lay_0 (d + 14) _ σ Q ?_)
  have L := up_loop (fun i => ∀ σ1, Fr frY σ σ1 → σ1.2 = σ.2 → (∀ j, j < i → σ1.1 27 j = σ.1 51 j ^^^ (-1) ∧ σ1.1 28 j = 1) → g_X5_lay (d + 15) 2 [(0, aN 25), (1, aN 51), (2, aI (nI (aN0 a))), (3, aI (nI i))] σ1 Q) (aN0 a) ?_ ?_
  · exact L σ (Fr.rf σ) rfl (fun j hj => by omega)
  · intro σ1 f1 g1 c1
    refine b_X5_lay_2 (d + 14) _ _ σ1 Q ⟨fun _ => ?_, fun q => absurd ((le_nI (by omega) (by omega)).mpr (Nat.le_refl _)) q⟩
    obtain ⟨d', hd'⟩ : ∃ d', d + 14 = d' + aN0 a + 1 := ⟨d + 13 - aN0 a, by omega⟩
    have n1 : nearC a σ1 51 (aN0 a) := fun i hi j => by rw [f1 51 i (by unfold frY; omega)]; exact hn i hi j
    have nx := s_heaviest σ1 27 28 rfl rfl (fun _ => 1) (aN0 a) hn12 (fun i hi => ⟨(c1 i hi).2, by omega⟩) (aN0 a) (Nat.le_refl _) d' (((1 : Int32) <<< (nI (aN0 a) &&& 31)) - 1) (fun y4 σ3 => g_X5_lay (d + 14 + 1) 52 [(0, aN 25), (1, aN 51), (2, aI (nI (aN0 a))), (4, aI y4)] σ3 Q) ?_
    · rw [← hd'] at nx; exact nx
    intro M hM hmx
    obtain ⟨m1, m2⟩ := clique_no (B := fun i j => bt (σ1.1 27 i) j) (fun i hi j hj => by
      show bt (σ1.1 27 i) j = _
      rw [(c1 i hi).1, bt_not _ hj, hn i hi j]) hn12 (fun i j hi hj => near_sym hw hi hj) hmx
    have L2 := up_from (fun m => ∀ σ2, Fr frY σ σ2 → σ2.2 = σ.2 → (∀ m' c', m' < m → ¬ colOK a m' c') → g_X5_lay (d + 15) 52 [(0, aN 25), (1, aN 51), (2, aI (nI (aN0 a))), (4, aI (nI m))] σ2 Q) (aN0 a + 1) M (by omega) ?_ ?_
    · exact L2 σ1 f1 g1 m2
    · intro σ2 f2 g2 no
      exact absurd col_id (no (aN0 a) _ (by omega))
    · intro m h1 h2 ihm σ2 f2 g2 no
      refine b_X5_lay_52 (d + 14) _ _ σ2 Q ⟨fun q => absurd ((lt_nI (by omega) (by omega)).mp q) (by omega), fun _ => ?_⟩
      refine s_layOn d a hw m (by omega) σ2 (fun i hi j => by rw [f2 51 i (by unfold frY; omega)]; exact hn i hi j) _ (fun σ3 c3 f3 g3 l3 e3 => ⟨fun z => absurd z (by decide), fun _ => ?_⟩) (fun σ3 f3 g3 nx => ⟨fun _ => ?_, fun z => absurd rfl z⟩)
      · refine h _ m c3 (f2.tr ((f3.wk (fun k j q => by unfold frL at q; unfold frY; omega)).tr (Fr.up _ _ (by unfold frY; omega)))) (g3.trans g2) (lay_of l3 no) rd_s (fun i hi => by rw [rd_o (by omega)]; exact e3 i hi)
      · rw [nI_1]
        refine ihm σ3 (f2.tr (f3.wk (fun k j q => by unfold frL at q; unfold frY; omega))) (g3.trans g2) (fun m' c' hm' hc => ?_)
        by_cases z : m' = m
        · subst z; exact nx c' hc
        · exact no m' c' (by omega) hc
  · intro i hi ih σ1 f1 g1 c1
    refine b_X5_lay_2 (d + 14) _ _ σ1 Q ⟨fun q => absurd ((le_nI (by omega) (by omega)).mp q) (by omega), fun _ => ⟨vp_in_nI (by omega) (by omega), vp_in_nI (by omega) (by omega), vp_in_nI (by omega) (by omega), fun σ2 e2 => ?_⟩⟩
    rw [nI_clamp (by omega)] at e2
    rw [nI_1]
    refine ih σ2 (f1.tr (by rw [e2]; exact (Fr.up _ _ (by unfold frY; omega)).tr (Fr.up _ _ (by unfold frY; omega)))) (by rw [e2]; exact g1) (fun j hj => ?_)
    by_cases z : j = i
    · subst z
      rw [e2, rd_o (by omega), rd_s, rd_s, f1 51 j (by unfold frY; omega)]
      exact ⟨rfl, rfl⟩
    · rw [e2, rd_o (by omega), rd_o (by omega), rd_o (by omega), rd_o (by omega)]
      exact c1 j (by omega)
theorem isLay_core {a : Ab} {m : Nat} {c : Nat → Nat} (h : isLay a m c) : isLay (core a) m c := h
theorem core_isLay {a : Ab} {m : Nat} {c : Nat → Nat} (h : isLay (core a) m c) : isLay a m c := h
def frT : Nat → Nat → Prop := fun k j => (25 ≤ k ∧ k ≤ 29) ∨ k = 51 ∨ (k = 0 ∧ j = 15)
set_option maxHeartbeats 1000000 in
theorem s_X7_stack (d : Nat) (a : Ab) (hw : WF a) (σ : tk_S) (hX : XI a σ) (hK : XK (core a) σ) (Q : tk_S → Prop) (h : ∀ σ' m c, Fr frT σ σ' → isLay a m c → σ'.1 25 4 = nI m → (∀ i, i < aN0 a → σ'.1 29 i = nI (c i)) → XK (core a) σ' → Q σ') : p_X7_stack (d + 16) [aN 0] σ Q := by
  refine e_X7_stack (d + 16) (b_X7_stack_0 (d + 15) σ Q ⟨fun c => ?_, fun c => ?_⟩)
  · rcases hK.2.1 with q | ⟨q, m, c', q1, q2, q3⟩
    · exact absurd q c
    · exact h σ m c' (Fr.rf σ) (core_isLay q1) q2 q3 hK
  · refine s_X7_near (d + 14) a hw σ hX _ (fun σ3 f3 g3 n3 => ?_)
    rw [f3 0 1 (by omega), hX.1]
    refine s_X5_lay d a hw σ3 n3 _ (fun σ5 m c5 f5 g5 k1 k2 k3 => ?_)
    have e : ∀ k j, ¬ frT k j → (tk_up σ5 0 15 1).1 k j = σ.1 k j := fun k j hk => by
      unfold frT at hk
      rw [rd_o' (by omega), f5 k j (by unfold frY; omega), f3 k j (by omega)]
    refine h _ m c5 e k1 (by rw [rd_o' (by omega)]; exact k2) (fun i hi => by rw [rd_o' (by omega)]; exact k3 i hi) ⟨?_, Or.inr ⟨rd_s', m, c5, isLay_core k1, by rw [rd_o' (by omega)]; exact k2, fun i hi => by rw [rd_o' (by omega)]; exact k3 i hi⟩, ?_⟩
    · rw [e _ _ (by unfold frT; omega), e _ _ (by unfold frT; omega)]
      exact hK.1
    · rw [e _ _ (by unfold frT; omega), e _ _ (by unfold frT; omega), show (tk_up σ5 0 15 1).2 = σ.2 from g5.trans g3]
      exact hK.2.2
def fr145 : Nat → Nat → Prop := fun k _ => k = 145
set_option maxHeartbeats 2000000 in
/-- the reference's search, from a beginning on -/
theorem s_lays_rec (d : Nat) (a : Ab) (hw : WF a) (m : Nat) (hm : m ≤ 12) (σ : tk_S) (h0 : σ.1 132 0 = nI (aN0 a)) (hn : nearC a σ 144 (aN0 a)) (Q : Int32 → tk_S → Prop) : ∀ k i, k + i = aN0 a → ∀ c, preC a m i c → (∀ σ', Fr fr145 σ σ' → σ'.2 = σ.2 → (∀ j, j < i → σ'.1 145 j = nI (c j)) → (∀ c', ¬ ext a m i c c') → g_X8_lays d 9 [(0, aN 132), (1, aI (nI m)), (2, aI (iI ((i : Int) - 1)))] σ' Q) → (∀ σ' c', Fr fr145 σ σ' → σ'.2 = σ.2 → lsE a m i c c' → (∀ j, j < aN0 a → σ'.1 145 j = nI (c' j)) → Q 1 σ') → ∀ t u, t + u = m → (∀ c', ext a m i c c' → i < aN0 a → u ≤ c' i) → ∀ σ', Fr fr145 σ σ' → σ'.2 = σ.2 → (∀ j, j < i → σ'.1 145 j = nI (c j)) → (i < aN0 a → σ'.1 145 i = iI ((u : Int) - 1)) → g_X8_lays d 9 [(0, aN 132), (1, aI (nI m)), (2, aI (nI i))] σ' Q := by
  have hn12 := hw.1
  intro k
  induction k with
  | zero =>
    intro i hk c hp hb hd t u htu no σ1 f1 g1 c1 _
    refine b_X8_lays_9 d _ _ σ1 Q ⟨fun q => absurd q (nI_pos (by omega)), fun _ => ⟨fun _ => ⟨fun q => absurd q (nI_pos (by omega)), fun _ => ?_⟩, fun q => absurd (by rw [f1 132 0 (by unfold fr145; omega), h0]; exact (le_nI (by omega) (by omega)).mpr (by omega)) q⟩⟩
    refine hd σ1 c f1 g1 ⟨⟨fun _ _ => rfl, fun j hj => hp.1 j (by omega), fun j k hj hk hn => hp.2 j k (by omega) (by omega) hn⟩, fun c'' h2 => Or.inl (fun j hj => (h2.1 j (by omega)).symm)⟩ (fun j hj => c1 j (by omega))
  | succ k ih =>
    intro i hk c hp hb hd t
    have hi : i < aN0 a := by omega
    induction t with
    | zero =>
      intro u htu no σ1 f1 g1 c1 ci
      have eu : u = m := by omega
      subst eu
      refine b_X8_lays_9 d _ _ σ1 Q ⟨fun q => absurd q (nI_pos (by omega)), fun _ => ⟨fun q => absurd ((le_nI (n := aN0 a) (k := i) (by omega) (by omega)).mp (by rw [f1 132 0 (by unfold fr145; omega), h0] at q; exact q)) (by omega), fun _ => ?_⟩⟩
      rw [nI_clamp (by omega), rd_s, ci hi, show iI ((u : Int) - 1) + 1 = nI u by rw [nI_iI, show (1 : Int32) = iI 1 from rfl, iI_add]; congr 1; omega]
      refine ⟨vp_in_nI (by omega) (by omega), vp_in_nI (by omega) (by omega), vp_in_nI (by omega) (by omega), fun q => absurd rfl q, fun _ => ?_⟩
      rw [show nI i + (-1) = iI ((i : Int) - 1) by rw [nI_iI, show (-1 : Int32) = iI (-1) from rfl, iI_add]; congr 1]
      refine hb _ (f1.tr (Fr.up _ _ (by unfold fr145; omega))) g1 (fun j hj => by rw [rd_o (by omega)]; exact c1 j hj) (fun c' h => ?_)
      have := no c' h hi
      have := h.2.1 i hi
      omega
    | succ t iht =>
      intro u htu no σ1 f1 g1 c1 ci
      refine b_X8_lays_9 d _ _ σ1 Q ⟨fun q => absurd q (nI_pos (by omega)), fun _ => ⟨fun q => absurd ((le_nI (n := aN0 a) (k := i) (by omega) (by omega)).mp (by rw [f1 132 0 (by unfold fr145; omega), h0] at q; exact q)) (by omega), fun _ => ?_⟩⟩
      rw [nI_clamp (by omega), rd_s, ci hi, show iI ((u : Int) - 1) + 1 = nI u by rw [nI_iI, show (1 : Int32) = iI 1 from rfl, iI_add]; congr 1; omega]
      refine ⟨vp_in_nI (by omega) (by omega), vp_in_nI (by omega) (by omega), vp_in_nI (by omega) (by omega), fun _ => ?_, fun q => absurd ((nI_eq (by omega) (by omega)).mp q) (by omega)⟩
      generalize e2 : tk_up σ1 145 i (nI u) = σ2
      have f2 : Fr fr145 σ σ2 := f1.tr (by rw [← e2]; exact Fr.up _ _ (by unfold fr145; omega))
      have g2 : σ2.2 = σ.2 := by rw [← e2]; exact g1
      have c2 : ∀ j, j < i → σ2.1 145 j = nI (c j) := fun j hj => by rw [← e2, rd_o (by omega)]; exact c1 j hj
      have ci2 : σ2.1 145 i = nI u := by rw [← e2, rd_s]
      have n2 : ∀ j, bt (σ2.1 144 i) j = pB (j < aN0 a ∧ nearP a i j) := fun j => by rw [f2 144 i (by unfold fr145; omega)]; exact hn i hi j
      have again : (∀ c', ext a m i c c' → i < aN0 a → u + 1 ≤ c' i) → ∀ σ3, Fr fr145 σ σ3 → σ3.2 = σ.2 → (∀ j, j < i → σ3.1 145 j = nI (c j)) → σ3.1 145 i = nI u → g_X8_lays d 9 [(0, aN 132), (1, aI (nI m)), (2, aI (nI i))] σ3 Q := by
        intro no' σ3 f3 g3 c3 ci3
        refine iht (u + 1) (by omega) no' σ3 f3 g3 c3 (fun _ => ?_)
        rw [ci3, nI_iI]; congr 1; omega
      have L := up_loop (fun j => g_X8_lays d 52 [(0, aN 132), (1, aI (nI m)), (2, aI (nI i)), (3, aI (b2i (pB (∀ j', j' < j → nearP a i j' → c j' ≠ u)))), (4, aI (nI j))] σ2 Q) i ?_ ?_
      · rw [show pB (∀ j', j' < 0 → nearP a i j' → c j' ≠ u) = true from pB_t.mpr (fun j' hj' => by omega)] at L
        exact L
      · refine b_X8_lays_52 d _ _ _ _ σ2 Q ⟨fun _ => ⟨fun q => ?_, fun q => ?_⟩, fun q => absurd ((le_nI (by omega) (by omega)).mpr (Nat.le_refl _)) q⟩
        · have fr := pB_t.mp (b2i_n.mp q)
          have hp' := pre_up hw hi hp (by omega : u < m) fr
          have go : ∀ σ3, Fr fr145 σ σ3 → σ3.2 = σ.2 → (∀ j, j < i → σ3.1 145 j = nI (c j)) → σ3.1 145 i = nI u → (i + 1 < aN0 a → σ3.1 145 (i + 1) = -1) → g_X8_lays d 9 [(0, aN 132), (1, aI (nI m)), (2, aI (nI (i + 1)))] σ3 Q := by
            intro σ3 f3 g3 c3 ci3 cn3
            refine ih (i + 1) (by omega) (u1 c i u) hp' (fun σ4 f4 g4 c4 nx => ?_) (fun σ4 c4 f4 g4 l4 e4 => hd σ4 c4 f4 g4 (ls_up hi (fun c'' h => no c'' h hi) l4) e4) m 0 (by omega) (fun _ _ _ => Nat.zero_le _) σ3 f3 g3 (fun j hj => ?_) (fun hq => by rw [cn3 hq]; rfl)
            · rw [show ((i + 1 : Nat) : Int) - 1 = (i : Int) by omega, ← nI_iI]
              refine again (fun c' h _ => ext_nx (fun c'' h => no c'' h hi) nx c' h) σ4 f4 g4 (fun j hj => by rw [c4 j (by omega), u1_o _ (by omega)]) (by rw [c4 i (by omega), u1_s])
            · by_cases z : j = i
              · subst z; rw [u1_s]; exact ci3
              · rw [u1_o _ z]; exact c3 j (by omega)
          rw [nI_1, f2 132 0 (by unfold fr145; omega), h0, nI_clamp (by omega)]
          refine ⟨fun q2 => ?_, fun q2 => ⟨vp_in_nI ?_ (by omega), ?_⟩⟩
          · have q2 := (le_nI (by omega) (by omega)).mp q2
            exact go σ2 f2 g2 c2 ci2 (fun z => by omega)
          · rcases Nat.lt_or_ge (i + 1) (aN0 a) with z | z
            · omega
            · exact absurd ((le_nI (by omega) (by omega)).mpr z) q2
          · exact go _ (f2.tr (Fr.up _ _ (by unfold fr145; omega))) g2 (fun j hj => by rw [rd_o (by omega)]; exact c2 j hj) (by rw [rd_o (by omega)]; exact ci2) (fun _ => rd_s)
        · have nf := pB_f.mp (b2i_0.mp q)
          refine again (fun c' h _ => ext_no hi (fun c'' h => no c'' h hi) ?_ c' h) σ2 f2 g2 c2 ci2
          apply Classical.byContradiction
          intro z
          exact nf (fun j hj hnr ec => z ⟨j, hj, hnr, ec⟩)
      · intro j hj ihj
        have nxt : ∀ b : Bool, b = pB (∀ j', j' < j + 1 → nearP a i j' → c j' ≠ u) → g_X8_lays d 52 [(0, aN 132), (1, aI (nI m)), (2, aI (nI i)), (3, aI (b2i b)), (4, aI (nI (j + 1)))] σ2 Q := fun b hb => by rw [hb]; exact ihj
        refine b_X8_lays_52 d _ _ _ _ σ2 Q ⟨fun q => absurd ((le_nI (by omega) (by omega)).mp q) (by omega), fun _ => ?_⟩
        rw [nI_1, nI_clamp (by omega), nI_clamp (by omega), bt_shr1 _ (by omega), b1n, n2 j, c2 j hj, ci2]
        refine ⟨fun q => nxt false (pB_f.mpr (fun z => pB_f.mp (b2i_0.mp q) (fun j' hj' => z j' (by omega)))).symm, fun q => ⟨vp_in_nI (by omega) (by omega), fun q2 => nxt true (pB_t.mpr (fun j' hj' hnr => ?_)).symm, fun q2 => ⟨vp_in_nI (by omega) (by omega), vp_in_nI (by omega) (by omega), fun q3 => nxt false (pB_f.mpr (fun z => ?_)).symm, fun q3 => nxt true (pB_t.mpr (fun j' hj' hnr => ?_)).symm⟩⟩⟩
        · have q := pB_t.mp (b2i_n.mp q)
          by_cases e : j' = j
          · subst e; exact absurd ⟨by omega, hnr⟩ (pB_f.mp q2)
          · exact q j' (by omega) hnr
        · have q2 : pB (j < aN0 a ∧ nearP a i j) = true := by
            cases e : pB (j < aN0 a ∧ nearP a i j)
            · exact absurd e q2
            · rfl
          have hcj := hp.1 j hj
          exact z j (by omega) (pB_t.mp q2).2 ((nI_eq (by omega) (by omega)).mp q3)
        · have q := pB_t.mp (b2i_n.mp q)
          by_cases e : j' = j
          · subst e; exact fun z => q3 (by rw [z])
          · exact q j' (by omega) hnr
theorem s_X8_lays (d : Nat) (a : Ab) (hw : WF a) (h1n : 0 < aN0 a) (m : Nat) (hm : m ≤ 12) (σ : tk_S) (h0 : σ.1 132 0 = nI (aN0 a)) (hn : nearC a σ 144 (aN0 a)) (Q : Int32 → tk_S → Prop) (h1 : ∀ σ' c', Fr fr145 σ σ' → σ'.2 = σ.2 → lsE a m 0 (fun _ => 0) c' → (∀ j, j < aN0 a → σ'.1 145 j = nI (c' j)) → Q 1 σ') (hf : ∀ σ', Fr fr145 σ σ' → σ'.2 = σ.2 → (∀ c', ¬ colOK a m c') → Q 0 σ') : p_X8_lays d [aN 132, aI (nI m)] σ Q := by
  refine e_X8_lays d _ (b_X8_lays_0 d _ σ Q ?_)
  rw [show (0 : Int32) = nI 0 from rfl, nI_clamp (by omega)]
  refine s_lays_rec d a hw m hm σ h0 hn Q (aN0 a) 0 rfl (fun _ => 0) ⟨fun j hj => by omega, fun j k hj => by omega⟩ (fun σ' f' g' _ nx => ?_) h1 m 0 rfl (fun _ _ _ => Nat.zero_le _) _ (Fr.up _ _ (by unfold fr145; omega)) rfl (fun j hj => by omega) (fun _ => rd_s)
  refine b_X8_lays_9 d _ _ σ' Q ⟨fun _ => ⟨fun _ => hf σ' f' g' (fun c' hc => nx c' ⟨fun j hj => by omega, hc⟩), fun q => absurd (by decide) q⟩, fun q => absurd (by decide) q⟩
theorem s_X8_sheets (d : Nat) (a : Ab) (hw : WF a) (σ : tk_S) (hM : MI a σ) (Q : Int32 → tk_S → Prop) (h : ∀ σ' m c, Fr (fun k _ => k = 144 ∨ k = 145) σ σ' → σ'.2 = σ.2 → isLay a m c → (∀ i, i < aN0 a → σ'.1 145 i = nI (c i)) → Q (nI m) σ') : p_X8_sheets (d + 3) [aN 132] σ Q := by
  have hn12 := hw.1
  refine e_X8_sheets (d + 3) (b_X8_sheets_0 (d + 2) σ Q ?_)
  rw [hM.1]
  refine ⟨fun q => ?_, fun q => ?_⟩
  · have hpos : 0 < aN0 a := by
      rcases Nat.eq_zero_or_pos (aN0 a) with z | z
      · rw [z] at q; exact absurd rfl q
      · exact z
    refine s_X8_nears d a hw σ hM _ (fun σ2 f2 g2 n2 => ?_)
    have c0 : σ2.1 132 0 = nI (aN0 a) := by rw [f2 _ _ (by omega)]; exact hM.1
    have L := up_from (fun m => ∀ σ3, Fr fr145 σ2 σ3 → σ3.2 = σ2.2 → (∀ m' c', m' < m → ¬ colOK a m' c') → g_X8_sheets (d + 3) 15 [(0, aN 132), (1, aI (nI m))] σ3 Q) (aN0 a + 1) 1 (by omega) ?_ ?_
    · exact L σ2 (Fr.rf _) rfl (fun m' c' hm' hc => by have := hc.1 0 hpos; omega)
    · intro σ3 f3 g3 no
      exact absurd col_id (no (aN0 a) _ (by omega))
    · intro m h1 h2 ih σ3 f3 g3 no
      refine b_X8_sheets_15 (d + 2) _ σ3 Q ?_
      refine s_X8_lays (d + 2) a hw hpos m (by omega) σ3 (by rw [f3 _ _ (by unfold fr145; omega)]; exact c0) (fun i hi j => by rw [f3 _ _ (by unfold fr145; omega)]; exact n2 i hi j) _ (fun σ4 c4 f4 g4 l4 e4 => ⟨fun _ => ?_, fun z => absurd z (by decide)⟩) (fun σ4 f4 g4 nx => ⟨fun z => absurd rfl z, fun _ => ?_⟩)
      · exact h σ4 m c4 ((f2.wk (fun k j z => Or.inl z)).tr ((f3.tr f4).wk (fun k j z => Or.inr z))) (g4.trans (g3.trans g2)) (lay_of l4 no) e4
      · rw [nI_1]
        refine ih σ4 (f3.tr f4) (g4.trans g3) (fun m' c' hm' hc => ?_)
        by_cases z : m' = m
        · subst z; exact nx c' hc
        · exact no m' c' (by omega) hc
  · have z : aN0 a = 0 := (nI_eq (b := 0) (by omega) (by omega)).mp q
    refine h σ 0 (fun _ => 0) (Fr.rf σ) rfl ⟨⟨fun i hi => by omega, fun i j hi => by omega⟩, fun m' c' hm' => by omega, fun c' _ => Or.inl (fun i hi => by omega)⟩ (fun i hi => by omega)
theorem relT {a : Ab} {σ σ1 : tk_S} (hw : WF a) (hX : XI a σ) (hF : XF (a 11) σ) (hM : MI a σ) (f : Fr frT σ σ1) : XI a σ1 ∧ XF (a 11) σ1 ∧ MI a σ1 :=
  ⟨hX.fr hw (f.wk (fun k j q => by unfold frT at q; unfold frS; omega)), hF.fr (fun k j hk => f k j (by unfold frT; omega)), hM.fr (f.wk (fun k j q => by unfold frT at q; show k < 132; omega))⟩
theorem step_sheets (d : Nat) (σ : tk_S) (hR : Rel σ) : p_X7_sheets (d + 17) [aN 0] σ (fun r σ1 => p_X8_sheets (d + 17) [aN 132] σ1 (fun r' σ2 => r = r' ∧ Rel σ2)) := by
  obtain ⟨a, hw, hX, hK, hF, hM⟩ := hR
  refine e_X7_sheets (d + 17) (b_X7_sheets_0 (d + 16) σ _ ?_)
  refine s_X7_stack d a hw σ hX hK _ (fun σ1 m c f1 l1 e1 c1 hK1 => ?_)
  obtain ⟨hX1, hF1, hM1⟩ := relT hw hX hF hM f1
  rw [e1]
  refine s_X8_sheets (d + 14) a hw σ1 hM1 _ (fun σ2 m2 c2 f2 g2 l2 e2 => ⟨by rw [(lay_uq l1 l2).1], a, relM hw hX1 hK1 hF1 hM1 (f2.wk (fun k j q => by unfold frR; omega)) g2⟩)
theorem step_sheet (d : Nat) (x : Int32) (σ : tk_S) (hR : Rel σ) : p_X7_sheet (d + 17) [aN 0, aI x] σ (fun r σ1 => p_X8_sheet (d + 17) [aN 132, aI x] σ1 (fun r' σ2 => r = r' ∧ Rel σ2)) := by
  obtain ⟨a, hw, hX, hK, hF, hM⟩ := id hR
  have hn12 := hw.1
  refine e_X7_sheet (d + 17) _ (b_X7_sheet_0 (d + 16) _ σ _ ?_)
  refine s_X7_isShape (d + 16) x hn12 σ hX.1 _ (fun i hi e => ⟨fun _ => ?_, fun z => absurd z (by decide)⟩) (fun no => ⟨fun z => absurd rfl z, fun _ => ?_⟩)
  · subst e
    refine s_X7_stack d a hw σ hX hK _ (fun σ1 m c f1 l1 e1 c1 hK1 => ⟨vp_in_nI (by omega) (by omega), ?_⟩)
    obtain ⟨hX1, hF1, hM1⟩ := relT hw hX hF hM f1
    rw [nI_clamp (by omega), c1 i hi]
    refine e_X8_sheet (d + 17) _ (b_X8_sheet_0 (d + 16) _ σ1 _ ?_)
    refine s_X8_isShape (d + 15) _ hn12 σ1 hM1.1 _ (fun _ _ _ => ⟨fun _ => ?_, fun z => absurd z (by decide)⟩) (fun no => absurd ⟨i, hi, rfl⟩ no)
    refine s_X8_sheets (d + 13) a hw σ1 hM1 _ (fun σ2 m2 c2 f2 g2 l2 e2 => ⟨vp_in_nI (by omega) (by omega), ?_, a, relM hw hX1 hK1 hF1 hM1 (f2.wk (fun k j q => by unfold frR; omega)) g2⟩)
    rw [nI_clamp (by omega), e2 i hi, (lay_uq l1 l2).2 i hi]
  · refine e_X8_sheet (d + 17) _ (b_X8_sheet_0 (d + 16) _ σ _ ?_)
    exact s_X8_isShape (d + 15) _ hn12 σ hM.1 _ (fun i hi e => absurd ⟨i, hi, e⟩ no) (fun _ => ⟨fun z => absurd rfl z, fun _ => ⟨rfl, hR⟩⟩)
