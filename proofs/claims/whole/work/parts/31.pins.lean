/-! the rows of pins (class Pins), method by method: what each leaves -/
set_option maxHeartbeats 1000000 in
theorem s_X2_clear (d k : Nat) (hk : tk_sh k = tk_pins) (σ : tk_S) (Q : tk_S → Prop) (h : Q (tk_fill σ (k + 1) 24 (fun _ => 0))) : p_X2_clear d [aN k] σ Q := by
  refine e_X2_clear d k (b_X2_clear_0 d k hk σ Q ?_)
  have L := up_loop (fun j => g_X2_clear d 2 [(0, aN k), (1, aI (nI j))] (tk_fill σ (k + 1) j (fun _ => 0)) Q) 24 ?_ ?_
  · rw [tk_fill_0] at L
    exact L
  · exact b_X2_clear_2 d k hk _ _ Q ⟨fun _ => h, fun c => absurd (by decide) c⟩
  · intro j hj ih
    refine b_X2_clear_2 d k hk _ _ Q ⟨fun c => absurd ((le_nI (n := 24) (by omega) (by omega)).mp c) (by omega), fun _ => ⟨vp_in_nI hj (by omega), ?_⟩⟩
    rw [nI_clamp (by omega), nI_1, tk_fill_up _ _ _ _ rfl]
    exact ih
