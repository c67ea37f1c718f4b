/-! the rows of pins (class Pins), method by method: what each leaves -/
set_option maxHeartbeats 1000000 in
theorem s_X2_clear (d k : Nat) (hk : tk_sh k = tk_pins) (σ : tk_S) (Q : tk_S → Prop) (h : Q (tk_fill σ (k + 1) 24 (fun _ => 0))) : p_X2_clear d [aN k] σ Q := by
  refine e_X2_clear d k (b_X2_clear_0 d k hk σ Q ?_)
  have L := up_loop (fun j => g_X2_clear d 2 [(0, aN k), (1, aI (nI j))] (tk_fill σ (k + 1) j (fun _ => 0)) Q) 24 ?_ ?_
  · rw [tk_fill_0] at L
    exact L
  · exact b_X2_clear_2 d k hk _ _ Q ⟨fun _ => h, fun c => absurd (by decide) c⟩
  · intro j hj ih
    refine b_X2_clear_2 d k hk _ _ Q ⟨fun c => absurd ((le_nI (n := 24) (by omega) (by omega)).mp c) (by omega), fun _ => ⟨vp_in_nI hj (by omega), ?_⟩⟩
    rw [nI_clamp (by omega), nI_1, tk_fill_up _ _ _ _ rfl]
    exact ih
set_option maxHeartbeats 1000000 in
theorem s_X2_copy (d k o : Nat) (hk : tk_sh k = tk_pins) (ho : tk_sh o = tk_pins) (σ : tk_S) (Q : tk_S → Prop) (h : Q (tk_fill σ (k + 1) 24 (fun j => σ.1 (o + 1) j))) : p_X2_copy d [aN k, aN o] σ Q := by
  refine e_X2_copy d k o (b_X2_copy_0 d k hk o ho σ Q ?_)
  have L := up_loop (fun j => g_X2_copy d 2 [(0, aN k), (1, aN o), (2, aI (nI j))] (tk_fill σ (k + 1) j (fun j => σ.1 (o + 1) j)) Q) 24 ?_ ?_
  · rw [tk_fill_0] at L
    exact L
  · exact b_X2_copy_2 d k hk o ho _ _ Q ⟨fun _ => h, fun c => absurd (by decide) c⟩
  · intro j hj ih
    refine b_X2_copy_2 d k hk o ho _ _ Q ⟨fun c => absurd ((le_nI (n := 24) (by omega) (by omega)).mp c) (by omega), fun _ => ⟨vp_in_nI hj (by omega), vp_in_nI hj (by omega), ?_⟩⟩
    rw [nI_clamp (by omega), nI_1, tk_fill_up _ _ _ _ (by simp only [tk_fill_ge _ _ _ _ (Nat.le_refl j)])]
    exact ih
set_option maxHeartbeats 1000000 in
theorem s_X2_join (d k o : Nat) (hk : tk_sh k = tk_pins) (ho : tk_sh o = tk_pins) (σ : tk_S) (Q : tk_S → Prop) (h : Q (tk_fill σ (k + 1) 24 (fun j => σ.1 (k + 1) j ||| σ.1 (o + 1) j))) : p_X2_join d [aN k, aN o] σ Q := by
  refine e_X2_join d k o (b_X2_join_0 d k hk o ho σ Q ?_)
  have L := up_loop (fun j => g_X2_join d 2 [(0, aN k), (1, aN o), (2, aI (nI j))] (tk_fill σ (k + 1) j (fun j => σ.1 (k + 1) j ||| σ.1 (o + 1) j)) Q) 24 ?_ ?_
  · rw [tk_fill_0] at L
    exact L
  · exact b_X2_join_2 d k hk o ho _ _ Q ⟨fun _ => h, fun c => absurd (by decide) c⟩
  · intro j hj ih
    refine b_X2_join_2 d k hk o ho _ _ Q ⟨fun c => absurd ((le_nI (n := 24) (by omega) (by omega)).mp c) (by omega), fun _ => ⟨vp_in_nI hj (by omega), vp_in_nI hj (by omega), vp_in_nI hj (by omega), ?_⟩⟩
    rw [nI_clamp (by omega), nI_1, tk_fill_up _ _ _ _ (by simp only [tk_fill_ge _ _ _ _ (Nat.le_refl j)])]
    exact ih
set_option maxHeartbeats 1000000 in
theorem s_X2_drop (d k o : Nat) (hk : tk_sh k = tk_pins) (ho : tk_sh o = tk_pins) (σ : tk_S) (Q : tk_S → Prop) (h : Q (tk_fill σ (k + 1) 24 (fun j => σ.1 (k + 1) j &&& (σ.1 (o + 1) j ^^^ (-1))))) : p_X2_drop d [aN k, aN o] σ Q := by
  refine e_X2_drop d k o (b_X2_drop_0 d k hk o ho σ Q ?_)
  have L := up_loop (fun j => g_X2_drop d 2 [(0, aN k), (1, aN o), (2, aI (nI j))] (tk_fill σ (k + 1) j (fun j => σ.1 (k + 1) j &&& (σ.1 (o + 1) j ^^^ (-1)))) Q) 24 ?_ ?_
  · rw [tk_fill_0] at L
    exact L
  · exact b_X2_drop_2 d k hk o ho _ _ Q ⟨fun _ => h, fun c => absurd (by decide) c⟩
  · intro j hj ih
    refine b_X2_drop_2 d k hk o ho _ _ Q ⟨fun c => absurd ((le_nI (n := 24) (by omega) (by omega)).mp c) (by omega), fun _ => ⟨vp_in_nI hj (by omega), vp_in_nI hj (by omega), vp_in_nI hj (by omega), ?_⟩⟩
    rw [nI_clamp (by omega), nI_1, tk_fill_up _ _ _ _ (by simp only [tk_fill_ge _ _ _ _ (Nat.le_refl j)])]
    exact ih
set_option maxHeartbeats 1000000 in
theorem s_X2_keepOnly (d k o : Nat) (hk : tk_sh k = tk_pins) (ho : tk_sh o = tk_pins) (σ : tk_S) (Q : tk_S → Prop) (h : Q (tk_fill σ (k + 1) 24 (fun j => σ.1 (k + 1) j &&& σ.1 (o + 1) j))) : p_X2_keepOnly d [aN k, aN o] σ Q := by
  refine e_X2_keepOnly d k o (b_X2_keepOnly_0 d k hk o ho σ Q ?_)
  have L := up_loop (fun j => g_X2_keepOnly d 2 [(0, aN k), (1, aN o), (2, aI (nI j))] (tk_fill σ (k + 1) j (fun j => σ.1 (k + 1) j &&& σ.1 (o + 1) j)) Q) 24 ?_ ?_
  · rw [tk_fill_0] at L
    exact L
  · exact b_X2_keepOnly_2 d k hk o ho _ _ Q ⟨fun _ => h, fun c => absurd (by decide) c⟩
  · intro j hj ih
    refine b_X2_keepOnly_2 d k hk o ho _ _ Q ⟨fun c => absurd ((le_nI (n := 24) (by omega) (by omega)).mp c) (by omega), fun _ => ⟨vp_in_nI hj (by omega), vp_in_nI hj (by omega), vp_in_nI hj (by omega), ?_⟩⟩
    rw [nI_clamp (by omega), nI_1, tk_fill_up _ _ _ _ (by simp only [tk_fill_ge _ _ _ _ (Nat.le_refl j)])]
    exact ih
theorem s_X2_raise (d k : Nat) (hk : tk_sh k = tk_pins) (x y : Int32) (σ : tk_S) (Q : tk_S → Prop) (ht : ∀ i j : Nat, i < 24 → j < 24 → x = nI i → y = nI j → Q (tk_up σ (k + 1) j (σ.1 (k + 1) j ||| ((1 : Int32) <<< (nI i &&& 31))))) (hf : ¬ isP x y → Q σ) : p_X2_raise (d + 1) [aN k, aI x, aI y] σ Q := by
  refine e_X2_raise (d + 1) k x y (b_X2_raise_0 d k hk x y σ Q ?_)
  refine s_X7_isPin d x y σ _ (fun hp => ⟨fun c => absurd c (by decide), fun _ => ?_⟩) (fun hp => ⟨fun _ => hf hp, fun c => absurd rfl c⟩)
  obtain ⟨i, j, hi, hj, rfl, rfl⟩ := hp
  have h := ht i j hi hj rfl rfl
  rw [nI_clamp (by omega)]
  exact ⟨vp_in_nI hj (by omega), vp_in_nI hj (by omega), h⟩
theorem s_X2_holds (d k : Nat) (hk : tk_sh k = tk_pins) {x y : Nat} (hx : x < 24) (hy : y < 24) (σ : tk_S) (Q : Int32 → tk_S → Prop) (h : Q (b2i (bt (σ.1 (k + 1) y) x)) σ) : p_X2_holds (d + 1) [aN k, aI (nI x), aI (nI y)] σ Q := by
  refine e_X2_holds (d + 1) k _ _ (b_X2_holds_0 d k hk _ _ σ Q ?_)
  refine s_X7_isPin d _ _ σ _ (fun hp => ⟨fun c => absurd c (by decide), fun _ => ⟨vp_in_nI hy (by omega), ?_⟩⟩) (fun hp => absurd ⟨x, y, hx, hy, rfl, rfl⟩ hp)
  rw [nI_clamp (by omega)]
  refine s_X7_has d _ (by omega) σ _ ⟨fun c => ?_, fun c => ?_⟩
  · rw [b2i_0] at c; rw [c] at h; exact h
  · rw [b2i_n] at c; rw [c] at h; exact h
theorem s_X2_touch (d k o : Nat) (hk : tk_sh k = tk_pins) (ho : tk_sh o = tk_pins) (σ : tk_S) (Q : Int32 → tk_S → Prop) (ht : ∀ y, y < 24 → σ.1 (k + 1) y &&& σ.1 (o + 1) y ≠ 0 → Q 1 σ) (hf : (∀ y, y < 24 → σ.1 (k + 1) y &&& σ.1 (o + 1) y = 0) → Q 0 σ) : p_X2_touch d [aN k, aN o] σ Q := by
  refine e_X2_touch d k o (b_X2_touch_0 d k hk o ho σ Q ?_)
  have L := up_loop (fun j => (∀ y, y < j → σ.1 (k + 1) y &&& σ.1 (o + 1) y = 0) → g_X2_touch d 2 [(0, aN k), (1, aN o), (2, aI (nI j))] σ Q) 24 ?_ ?_
  · exact L (fun y hy => absurd hy (Nat.not_lt_zero y))
  · intro hz
    exact b_X2_touch_2 d k hk o ho _ _ Q ⟨fun _ => hf hz, fun c => absurd (by decide) c⟩
  · intro j hj ih hz
    refine b_X2_touch_2 d k hk o ho _ _ Q ⟨fun c => absurd ((le_nI (n := 24) (by omega) (by omega)).mp c) (by omega), fun _ => ⟨vp_in_nI hj (by omega), vp_in_nI hj (by omega), ?_⟩⟩
    rw [nI_clamp (by omega), nI_1]
    refine ⟨fun c => ih (fun y hy => ?_), fun c => ht j hj c⟩
    rcases Nat.lt_or_ge y j with q | q
    · exact hz y q
    · rw [show y = j by omega]; exact c
def wid (x : Int32) : Int32 := ((x ||| (x <<< ((1 : Int32) &&& 31))) ||| (x >>> ((1 : Int32) &&& 31))) &&& 16777215
theorem s_X2_widened (d : Nat) (x : Int32) (σ : tk_S) (Q : Int32 → tk_S → Prop) (h : Q (wid x) σ) : p_X2_widened d [aI x] σ Q := e_X2_widened d x (b_X2_widened_0 d x σ Q h)
/-- the rows behind one swelling -/
def swl (f : Nat → Int32) (y : Nat) : Int32 := ((if y = 0 then 0 else wid (f (y - 1))) ||| wid (f y)) ||| (if y + 1 < 24 then wid (f (y + 1)) else 0)
set_option maxHeartbeats 1000000 in
theorem s_X2_swell (d k : Nat) (hk : tk_sh k = tk_pins) (σ : tk_S) (Q : tk_S → Prop) (h : Q (tk_fill σ (k + 1) 24 (swl (σ.1 (k + 1))))) : p_X2_swell (d + 1) [aN k] σ Q := by
  refine e_X2_swell (d + 1) k (b_X2_swell_0 d k hk σ Q (s_X2_widened d _ σ _ ?_))
  have L := up_loop (fun j => g_X2_swell (d + 1) 14 [(0, aN k), (1, aI (if j = 0 then 0 else wid (σ.1 (k + 1) (j - 1)))), (2, aI (if j < 24 then wid (σ.1 (k + 1) j) else 0)), (3, aI (nI j))] (tk_fill σ (k + 1) j (swl (σ.1 (k + 1)))) Q) 24 ?_ ?_
  · rw [tk_fill_0] at L
    exact L
  · exact b_X2_swell_14 d k hk _ _ _ _ Q ⟨fun _ => h, fun c => absurd (by decide) c⟩
  · intro j hj ih
    have fin : ∀ z : Int32, z = (if j + 1 < 24 then wid (σ.1 (k + 1) (j + 1)) else 0) → g_X2_swell (d + 1) 45 [(0, aN k), (1, aI (if j = 0 then 0 else wid (σ.1 (k + 1) (j - 1)))), (2, aI (if j < 24 then wid (σ.1 (k + 1) j) else 0)), (3, aI (nI j)), (4, aI z)] (tk_fill σ (k + 1) j (swl (σ.1 (k + 1)))) Q := by
      intro z hz
      refine b_X2_swell_45 d k hk _ _ _ _ _ Q ⟨vp_in_nI hj (by omega), ?_⟩
      rw [nI_clamp (by omega), nI_1, tk_fill_up _ _ _ _ (by rw [hz, if_pos hj]; rfl), hz]
      rw [show (if j < 24 then wid (σ.1 (k + 1) j) else 0) = (if j + 1 = 0 then 0 else wid (σ.1 (k + 1) (j + 1 - 1))) by rw [if_pos hj, if_neg (by omega)]; rfl]
      exact ih
    refine b_X2_swell_14 d k hk _ _ _ _ Q ⟨fun c => absurd ((le_nI (n := 24) (by omega) (by omega)).mp c) (by omega), fun _ => ⟨fun c => ?_, fun c => ?_⟩⟩
    · rw [nI_1] at c
      have := (le_nI (n := 24) (by omega) (by omega)).mp c
      exact fin 0 (by rw [if_neg (by omega)])
    · rw [nI_1] at c ⊢
      have hj1 : j + 1 < 24 := by
        rcases Nat.lt_or_ge (j + 1) 24 with q | q
        · exact q
        · exact absurd ((le_nI (n := 24) (by omega) (by omega)).mpr q) c
      refine ⟨vp_in_nI hj1 (by omega), ?_⟩
      rw [nI_clamp (by omega), tk_fill_ge _ _ _ _ (by omega)]
      exact s_X2_widened d _ _ _ (fin _ (by rw [if_pos hj1]))
