/-! SHEETS: the least way that goes on from a beginning -/
def ext (a : Ab) (m i : Nat) (c c' : Nat → Nat) : Prop := (∀ j, j < i → c' j = c j) ∧ colOK a m c'
def lsE (a : Ab) (m i : Nat) (c c' : Nat → Nat) : Prop := ext a m i c c' ∧ ∀ c'', ext a m i c c'' → lexLE (aN0 a) c' c''
def preC (a : Ab) (m i : Nat) (c : Nat → Nat) : Prop := (∀ j, j < i → c j < m) ∧ ∀ j k, j < i → k < i → nearP a j k → c j ≠ c k
theorem ext_dn {a : Ab} {m i u : Nat} {c c' : Nat → Nat} (h : ext a m i c c') (e : c' i = u) : ext a m (i + 1) (u1 c i u) c' := by
  refine ⟨fun j hj => ?_, h.2⟩
  by_cases z : j = i
  · subst z; rw [u1_s]; exact e
  · rw [u1_o _ z]; exact h.1 j (by omega)
theorem ext_up {a : Ab} {m i u : Nat} {c c' : Nat → Nat} (h : ext a m (i + 1) (u1 c i u) c') : ext a m i c c' ∧ c' i = u :=
  ⟨⟨fun j hj => by rw [h.1 j (by omega), u1_o _ (by omega)], h.2⟩, by rw [h.1 i (by omega), u1_s]⟩
theorem ls_up {a : Ab} {m i u : Nat} {c c' : Nat → Nat} (hi : i < aN0 a) (no : ∀ c'', ext a m i c c'' → u ≤ c'' i) (h : lsE a m (i + 1) (u1 c i u) c') : lsE a m i c c' := by
  obtain ⟨e1, e2⟩ := ext_up h.1
  refine ⟨e1, fun c'' h2 => ?_⟩
  rcases Nat.lt_or_ge u (c'' i) with q | q
  · exact Or.inr ⟨i, hi, by omega, fun j hj => by rw [e1.1 j hj, h2.1 j hj]⟩
  · have := no c'' h2
    exact h.2 c'' (ext_dn h2 (by omega))
theorem pre_up {a : Ab} (hw : WF a) {m i u : Nat} {c : Nat → Nat} (hi : i < aN0 a) (h : preC a m i c) (hu : u < m) (hf : ∀ j, j < i → nearP a i j → c j ≠ u) : preC a m (i + 1) (u1 c i u) := by
  refine ⟨fun j hj => ?_, fun j k hj hk hn => ?_⟩
  · by_cases z : j = i
    · subst z; rw [u1_s]; exact hu
    · rw [u1_o _ z]; exact h.1 j (by omega)
  · by_cases z : j = i
    · subst z
      by_cases z2 : k = j
      · subst z2; exact absurd rfl hn.1
      · rw [u1_s, u1_o _ z2]; exact fun q => hf k (by omega) hn q.symm
    · by_cases z2 : k = i
      · subst z2
        rw [u1_s, u1_o _ z]; exact hf j (by omega) (near_sym hw (by omega) hi hn)
      · rw [u1_o _ z, u1_o _ z2]; exact h.2 j k (by omega) (by omega) hn
theorem ext_no {a : Ab} {m i u : Nat} {c : Nat → Nat} (hi : i < aN0 a) (no : ∀ c'', ext a m i c c'' → u ≤ c'' i) (hj : ∃ j, j < i ∧ nearP a i j ∧ c j = u) : ∀ c'', ext a m i c c'' → u + 1 ≤ c'' i := by
  intro c'' h
  obtain ⟨j, j1, j2, j3⟩ := hj
  have h1 := no c'' h
  have h2 := h.2.2 i j hi (by omega) j2
  rw [h.1 j j1, j3] at h2
  omega
theorem ext_nx {a : Ab} {m i u : Nat} {c : Nat → Nat} (no : ∀ c'', ext a m i c c'' → u ≤ c'' i) (hn : ∀ c'', ¬ ext a m (i + 1) (u1 c i u) c'') : ∀ c'', ext a m i c c'' → u + 1 ≤ c'' i := by
  intro c'' h
  have h1 := no c'' h
  rcases Nat.lt_or_ge u (c'' i) with q | q
  · exact q
  · exact absurd (ext_dn h (by omega)) (hn c'')
/-- a sheet that is not used yet is as good as another -/
theorem ext_swap {a : Ab} {m i w : Nat} {c c' : Nat → Nat} (hi : i < aN0 a) (hc : ∀ j, j < i → c j < w) (h : ext a m i c c') (hw : w < c' i) : ∃ c'', ext a m i c c'' ∧ c'' i = w := by
  have hm : c' i < m := h.2.1 i hi
  refine ⟨fun j => if c' j = c' i then w else if c' j = w then c' i else c' j, ⟨fun j hj => ?_, fun j hj => ?_, fun j k hj hk hn => ?_⟩, if_pos rfl⟩
  · have e := h.1 j hj
    have := hc j hj
    simp only
    rw [if_neg (by omega), if_neg (by omega)]; exact e
  · have := h.2.1 j hj
    simp only
    split
    · omega
    · split <;> omega
  · have := h.2.2 j k hj hk hn
    simp only
    split <;> split <;> (try split) <;> (try split) <;> omega
theorem ext_last {a : Ab} (hw : WF a) {m i s : Nat} {c c' : Nat → Nat} (hi : i < aN0 a) (hs : s < m) (hf : ∀ j, j < i → nearP a i j → c j ≠ s) (hb : ∀ j, i ≤ j → j < aN0 a → ¬ nearP a i j) (h : ext a m i c c') : ext a m (i + 1) (u1 c i s) (u1 c' i s) := by
  refine ⟨fun j hj => ?_, fun j hj => ?_, fun j k hj hk hn => ?_⟩
  · by_cases z : j = i
    · subst z; rw [u1_s, u1_s]
    · rw [u1_o _ z, u1_o _ z]; exact h.1 j (by omega)
  · by_cases z : j = i
    · subst z; rw [u1_s]; exact hs
    · rw [u1_o _ z]; exact h.2.1 j hj
  · by_cases z : j = i
    · subst z
      have hk' : k < j := by
        rcases Nat.lt_or_ge k j with q | q
        · exact q
        · exact absurd hn (hb k q hk)
      rw [u1_s, u1_o _ (by omega), h.1 k hk']; exact fun q => hf k hk' hn q.symm
    · by_cases z2 : k = i
      · subst z2
        have hn2 := near_sym hw hj hk hn
        have hj' : j < k := by
          rcases Nat.lt_or_ge j k with q | q
          · exact q
          · exact absurd hn2 (hb j q hj)
        rw [u1_s, u1_o _ z, h.1 j hj']; exact hf j hj' hn2
      · rw [u1_o _ z, u1_o _ z2]; exact h.2.2 j k hj hk hn
theorem shr_z {x : Int32} {i : Nat} (hi : i < 32) (h : x >>> (nI i &&& 31) = 0) : ∀ b, i ≤ b → bt x b = false := by
  intro b hb
  by_cases hb2 : b < 32
  · have this : bt (x >>> (nI i &&& 31)) (b - i) = bt 0 (b - i) := by rw [h]
    rw [b_sshr i hi x (by omega), if_pos (by omega), show i + (b - i) = b by omega, b_0] at this
    exact this
  · exact b_big (by omega)
def frL : Nat → Nat → Prop := fun k _ => k = 26 ∨ k = 29
set_option maxHeartbeats 2000000 in
theorem s_place (a : Ab) (hw : WF a) (m : Nat) (hm : m ≤ 12) : ∀ k i, k + i = aN0 a → ∀ (d : Nat) (c : Nat → Nat) (us : Nat) (σ : tk_S) (Q : Int32 → tk_S → Prop), nearC a σ 51 (aN0 a) → preC a m i c → (∀ j, j < i → c j < us) → us ≤ m → (∀ s, s < m → ∀ b, bt (σ.1 26 s) b = decide (b < i ∧ c b = s)) → (∀ j, j < i → σ.1 29 j = nI (c j)) → (∀ σ' c', Fr frL σ σ' → σ'.2 = σ.2 → lsE a m i c c' → (∀ j, j < aN0 a → σ'.1 29 j = nI (c' j)) → Q 1 σ') → (∀ σ', Fr frL σ σ' → σ'.2 = σ.2 → (∀ s, s < m → ∀ b, bt (σ'.1 26 s) b = decide (b < i ∧ c b = s)) → (∀ j, j < i → σ'.1 29 j = nI (c j)) → (∀ c', ¬ ext a m i c c') → Q 0 σ') → p_X5_place (d + k + 1) [aN 25, aI (nI i), aI (nI us), aI (nI m), aN 51, aI (nI (aN0 a))] σ Q := by
  have hn12 := hw.1
  intro k
  induction k with
  | zero =>
    intro i hk d c us σ Q hn hp hu hum hh hs h1 h0
    refine e_X5_place (d + 0 + 1) _ _ _ _ (b_X5_place_0 (d + 0) _ _ _ _ σ Q ⟨fun q => absurd ((lt_nI (by omega) (by omega)).mp q) (by omega), fun _ => ?_⟩)
    refine h1 σ c (Fr.rf σ) rfl ⟨⟨fun _ _ => rfl, fun j hj => hp.1 j (by omega), fun j k hj hk hn => hp.2 j k (by omega) (by omega) hn⟩, fun c'' h2 => Or.inl (fun j hj => (h2.1 j (by omega)).symm)⟩ (fun j hj => hs j (by omega))
  | succ k ih =>
    intro i hk d c us σ Q hn hp hu hum hh hs h1 h0
    have hi : i < aN0 a := by omega
    refine e_X5_place (d + (k + 1) + 1) _ _ _ _ (b_X5_place_0 (d + (k + 1)) _ _ _ _ σ Q ⟨fun _ => ?_, fun q => absurd ((lt_nI (by omega) (by omega)).mpr hi) q⟩)
    have L := up_loop (fun s => ∀ σ1, Fr frL σ σ1 → σ1.2 = σ.2 → (∀ s, s < m → ∀ b, bt (σ1.1 26 s) b = decide (b < i ∧ c b = s)) → (∀ j, j < i → σ1.1 29 j = nI (c j)) → (∀ c'', ext a m i c c'' → s ≤ c'' i) → g_X5_place (d + (k + 1) + 1) 11 [(0, aN 25), (1, aI (nI i)), (2, aI (nI us)), (3, aI (nI m)), (4, aN 51), (5, aI (nI (aN0 a))), (6, aI (nI s))] σ1 Q) (m + 1) ?_ ?_
    · exact L σ (Fr.rf σ) rfl hh hs (fun _ _ => Nat.zero_le _)
    · intro σ1 f1 g1 hh1 hs1 no
      have nx : ∀ c', ¬ ext a m i c c' := fun c' h => by have := no c' h; have := h.2.1 i hi; omega
      refine b_X5_place_11 (d + (k + 1)) _ _ _ _ _ σ1 Q ⟨fun _ => h0 σ1 f1 g1 hh1 hs1 nx, fun _ => ⟨fun _ => h0 σ1 f1 g1 hh1 hs1 nx, fun q => absurd ((le_nI (by omega) (by omega)).mpr (by omega)) q⟩⟩
    · intro s hs' ihs σ1 f1 g1 hh1 hs1 no
      have n1 : nearC a σ1 51 (aN0 a) := fun i' hi' j => by rw [f1 51 i' (by unfold frL; omega)]; exact hn i' hi' j
      refine b_X5_place_11 (d + (k + 1)) _ _ _ _ _ σ1 Q ⟨fun q => ?_, fun q => ⟨fun q2 => ?_, fun q2 => ?_⟩⟩
      · have q := (lt_nI (by omega) (by omega)).mp q
        refine h0 σ1 f1 g1 hh1 hs1 (fun c' h => ?_)
        have := no c' h
        obtain ⟨c2, z1, z2⟩ := ext_swap hi hu h (by omega)
        have := no c2 z1
        omega
      · have q2 := (le_nI (by omega) (by omega)).mp q2
        refine h0 σ1 f1 g1 hh1 hs1 (fun c' h => ?_)
        have := no c' h
        have := h.2.1 i hi
        omega
      · have hsm : s < m := by
          rcases Nat.lt_or_ge s m with z | z
          · exact z
          · exact absurd ((le_nI (by omega) (by omega)).mpr z) q2
        have hsu : s ≤ us := by
          rcases Nat.lt_or_ge us s with z | z
          · exact absurd ((lt_nI (by omega) (by omega)).mpr z) q
          · exact z
        rw [nI_clamp (by omega), nI_clamp (by omega), nI_1, nI_1]
        have cf : (σ1.1 26 s &&& σ1.1 51 i) = 0 ↔ ∀ j, j < i → nearP a i j → c j ≠ s := by
          constructor
          · intro e j hj hnr ec
            refine absurd e (and_nz.mpr ⟨j, by omega, ?_, ?_⟩)
            · rw [hh1 s hsm]; exact decide_eq_true ⟨hj, ec⟩
            · rw [n1 i hi]; exact pB_t.mpr ⟨by omega, hnr⟩
          · intro e
            apply Classical.byContradiction
            intro z
            obtain ⟨j, j1, j2, j3⟩ := and_nz.mp z
            rw [hh1 s hsm] at j2
            rw [n1 i hi, pB_t] at j3
            have j2 := of_decide_eq_true j2
            exact e j j2.1 j3.2 j2.2
        refine ⟨vp_in_nI (by omega) (by omega), vp_in_nI (by omega) (by omega), fun e => ⟨vp_in_nI (by omega) (by omega), vp_in_nI (by omega) (by omega), vp_in_nI (by omega) (by omega), fun σ9 e9 => ?_⟩, fun e => ?_⟩
        · have fe := cf.mp e
          have r9 : ∀ k j, ¬ ((k = 26 ∧ j = s) ∨ (k = 29 ∧ j = i)) → σ9.1 k j = σ1.1 k j := fun k j hk => by rw [e9, rd_o (by omega), rd_o (by omega)]
          have f9 : Fr frL σ σ9 := f1.tr (by rw [e9]; exact (Fr.up _ _ (by unfold frL; omega)).tr (Fr.up _ _ (by unfold frL; omega)))
          rw [show (if nI us < nI (s + 1) then nI (s + 1) else nI us) = nI (max us (s + 1)) from max_if (by omega) (by omega)]
          refine ih (i + 1) (by omega) d (u1 c i s) (max us (s + 1)) σ9 _ (fun i' hi' j => by rw [r9 _ _ (by omega)]; exact n1 i' hi' j) (pre_up hw hi hp hsm fe) (fun j hj => ?_) (Nat.max_le.mpr ⟨hum, hsm⟩) (fun s' hs2 b => ?_) (fun j hj => ?_) (fun σ2 c' f2 g2 l2 c2 => ⟨fun z => absurd z (by decide), fun _ => ?_⟩) (fun σ2 f2 g2 hh2 hs2 nx => ⟨fun _ => ⟨vp_in_nI (by omega) (by omega), vp_in_nI (by omega) (by omega), vp_in_nI (by omega) (by omega), ?_⟩, fun z => absurd rfl z⟩)
          · by_cases z : j = i
            · subst z; rw [u1_s]; exact Nat.lt_of_lt_of_le (Nat.lt_succ_self _) (Nat.le_max_right _ _)
            · rw [u1_o _ z]; exact Nat.lt_of_lt_of_le (hu j (by omega)) (Nat.le_max_left _ _)
          · by_cases z : s' = s
            · subst z
              rw [e9, rd_o (by omega), rd_s, b_or, bt_1 (by omega), hh1 s' hsm b]
              by_cases zb : b = i
              · subst zb; rw [u1_s]; simp
              · rw [u1_o _ zb, decide_eq_false zb, Bool.or_false]
                exact decide_eq_decide.mpr ⟨fun v => ⟨by omega, v.2⟩, fun v => ⟨by omega, v.2⟩⟩
            · rw [r9 _ _ (by omega), hh1 s' hs2 b]
              by_cases zb : b = i
              · subst zb; rw [u1_s]
                exact decide_eq_decide.mpr ⟨fun v => by omega, fun v => by omega⟩
              · rw [u1_o _ zb]
                exact decide_eq_decide.mpr ⟨fun v => ⟨by omega, v.2⟩, fun v => ⟨by omega, v.2⟩⟩
          · by_cases z : j = i
            · subst z; rw [e9, rd_s, u1_s]
            · rw [u1_o _ z, r9 _ _ (by omega)]; exact hs1 j (by omega)
          · exact h1 σ2 c' (f9.tr f2) (by rw [g2, e9]; exact g1) (ls_up hi no l2) c2
          · generalize e3 : tk_up σ2 26 s (σ2.1 26 s &&& (((1 : Int32) <<< (nI i &&& 31)) ^^^ (-1))) = σ3
            have r3 : ∀ k j, ¬ (k = 26 ∧ j = s) → σ3.1 k j = σ2.1 k j := fun k j hk => by rw [← e3, rd_o hk]
            have f3 : Fr frL σ σ3 := (f9.tr f2).tr (by rw [← e3]; exact Fr.up _ _ (by unfold frL; omega))
            have g3 : σ3.2 = σ.2 := by rw [← e3]; exact g2.trans (by rw [e9]; exact g1)
            have hh3 : ∀ s, s < m → ∀ b, bt (σ3.1 26 s) b = decide (b < i ∧ c b = s) := by
              intro s' hs2' b
              by_cases z : s' = s
              · subst z
                rw [← e3, rd_s, b_and, hh2 s' hsm b]
                by_cases zb : b = i
                · subst zb
                  rw [bt_not _ (by omega), bt_1 (by omega), decide_eq_true rfl, Bool.not_true, Bool.and_false, decide_eq_false (by omega)]
                · rw [u1_o _ zb]
                  by_cases hb : b < 32
                  · rw [bt_not _ hb, bt_1 (by omega), decide_eq_false zb, Bool.not_false, Bool.and_true]
                    exact decide_eq_decide.mpr ⟨fun v => ⟨by omega, v.2⟩, fun v => ⟨by omega, v.2⟩⟩
                  · rw [decide_eq_false (by omega), decide_eq_false (by omega), Bool.false_and]
              · rw [r3 _ _ (by omega), hh2 s' hs2' b]
                by_cases zb : b = i
                · subst zb; rw [u1_s]
                  exact decide_eq_decide.mpr ⟨fun v => by omega, fun v => by omega⟩
                · rw [u1_o _ zb]
                  exact decide_eq_decide.mpr ⟨fun v => ⟨by omega, v.2⟩, fun v => ⟨by omega, v.2⟩⟩
            have hs3 : ∀ j, j < i → σ3.1 29 j = nI (c j) := fun j hj => by rw [r3 _ _ (by omega), hs2 j (by omega), u1_o _ (by omega)]
            refine ⟨fun _ => ihs σ3 f3 g3 hh3 hs3 (ext_nx no nx), fun z => h0 σ3 f3 g3 hh3 hs3 (fun c' h => ?_)⟩
            have bz := shr_z (by omega) z
            refine nx _ (ext_last hw hi hsm fe (fun j hj hjn hnr => ?_) h)
            have := bz j hj
            rw [f3 51 i (by unfold frL; omega), hn i hi j, pB_f] at this
            exact this ⟨hjn, hnr⟩
        · refine ihs σ1 f1 g1 hh1 hs1 (ext_no hi no ?_)
          apply Classical.byContradiction
          intro z
          exact e (cf.mpr (fun j hj hnr ec => z ⟨j, hj, hnr, ec⟩))
