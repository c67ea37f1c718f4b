/-! what the two constructors made is the fresh state -/
def ceq (e1 e2 : va_E) : Prop := ∀ (D : va_G) (a : Nat) (H : Heap), va_at D vwCl (a, e1) H → va_at D vwCl (a, e2) H
theorem ceq_r {e1 e2 : va_E} (h : e1 = e2) : ceq e1 e2 := by
  subst h
  exact fun _ _ _ q => q
theorem ceq_q {cI : ClassId} {n : Nat} {f g : Nat → Option Nat} (h : ∀ j, j < n → f j = g j) : ceq (.inl (cI, n, .inr (.inr (.inr (.inr f))))) (.inl (cI, n, .inr (.inr (.inr (.inr g))))) := by
  intro D a H q
  have q' : H[a]? = some (vp_cell cI (n, .inr (.inr (.inr (.inr f))))) := q
  show H[a]? = some (vp_cell cI (n, .inr (.inr (.inr (.inr g)))))
  rw [q', vp_cell_q, vp_cell_q]
  congr 1
  exact arrV_c _ _ (fun j hj => by rw [h j hj])
def cfa : List va_E → List va_E → Prop
  | [], [] => True
  | a :: r, b :: t => ceq a b ∧ cfa r t
  | _, _ => False
theorem cfa_n : cfa [] [] := trivial
theorem cfa_c {a b : va_E} {r t : List va_E} (h : ceq a b) (h2 : cfa r t) : cfa (a :: r) (b :: t) := ⟨h, h2⟩
theorem adr_ceq : ∀ (b : Nat) {L1 L2 : List va_E}, cfa L1 L2 → ∀ {D : va_G} {H : Heap}, va_P D vwCl (adr b L1) H → va_P D vwCl (adr b L2) H
  | _, [], [], _, _, _, hP => hP
  | b, e1 :: r, e2 :: t, h, D, H, hP => by
    intro k q hk
    match k, hk with
    | 0, hk =>
      cases hk
      exact h.1 D b H (hP 0 _ rfl)
    | k + 1, hk => exact adr_ceq (b + 1) h.2 (fun k q hk => hP (k + 1) q hk) k q hk
  | _, [], _ :: _, h, _, _, _ => h.elim
  | _, _ :: _, [], h, _, _, _ => h.elim
theorem tkw_adr (B : Nat) (cy : Nat → ClassId) (σ : tk_S) : tk_w (fun k => B + k) cy σ = adr B ((List.range 153).map (fun k => tk_e (fun k => B + k) cy (σ.1 k) σ.2 k)) := by
  apply List.ext_getElem?
  intro k
  rw [adr_at, List.getElem?_map]
  by_cases hk : k < 153
  · rw [tk_w_at hk, List.getElem?_range hk]
    rfl
  · rw [List.getElem?_eq_none (by rw [tk_w_len]; omega), List.getElem?_eq_none (by rw [List.length_range]; omega)]
    rfl
theorem rg153 : List.range 153 = [0, 1, 2, 3, 4, 5, 6, 7, 8, 9, 10, 11, 12, 13, 14, 15, 16, 17, 18, 19, 20, 21, 22, 23, 24, 25, 26, 27, 28, 29, 30, 31, 32, 33, 34, 35, 36, 37, 38, 39, 40, 41, 42, 43, 44, 45, 46, 47, 48, 49, 50, 51, 52, 53, 54, 55, 56, 57, 58, 59, 60, 61, 62, 63, 64, 65, 66, 67, 68, 69, 70, 71, 72, 73, 74, 75, 76, 77, 78, 79, 80, 81, 82, 83, 84, 85, 86, 87, 88, 89, 90, 91, 92, 93, 94, 95, 96, 97, 98, 99, 100, 101, 102, 103, 104, 105, 106, 107, 108, 109, 110, 111, 112, 113, 114, 115, 116, 117, 118, 119, 120, 121, 122, 123, 124, 125, 126, 127, 128, 129, 130, 131, 132, 133, 134, 135, 136, 137, 138, 139, 140, 141, 142, 143, 144, 145, 146, 147, 148, 149, 150, 151, 152] := by decide +kernel
set_option maxHeartbeats 8000000 in
set_option maxRecDepth 100000 in
theorem fa0 (cy : Nat → ClassId) (B : Nat) : cfa (LL7 cy B ++ LL8 cy (B + 132)) ([0, 1, 2, 3, 4, 5, 6, 7, 8, 9, 10, 11, 12, 13, 14, 15, 16, 17, 18, 19, 20, 21, 22, 23, 24, 25, 26, 27, 28, 29, 30, 31, 32, 33, 34, 35, 36, 37, 38, 39, 40, 41, 42, 43, 44, 45, 46, 47, 48, 49, 50, 51, 52, 53, 54, 55, 56, 57, 58, 59, 60, 61, 62, 63, 64, 65, 66, 67, 68, 69, 70, 71, 72, 73, 74, 75, 76, 77, 78, 79, 80, 81, 82, 83, 84, 85, 86, 87, 88, 89, 90, 91, 92, 93, 94, 95, 96, 97, 98, 99, 100, 101, 102, 103, 104, 105, 106, 107, 108, 109, 110, 111, 112, 113, 114, 115, 116, 117, 118, 119, 120, 121, 122, 123, 124, 125, 126, 127, 128, 129, 130, 131, 132, 133, 134, 135, 136, 137, 138, 139, 140, 141, 142, 143, 144, 145, 146, 147, 148, 149, 150, 151, 152].map (fun k => tk_e (fun k => B + k) cy (s0.1 k) s0.2 k)) := by
  simp only [LL7, LL8, LL6, LL0, LL1, LL2, LL3, LL4, LL5, List.nil_append, List.cons_append, List.append_assoc, List.set_cons_zero, List.set_cons_succ, List.replicate_succ, List.replicate_zero, List.map_cons, List.map_nil]
  refine cfa_c (ceq_r rfl) ?_
  refine cfa_c (ceq_q (fun j hj => ?_)) ?_
  · obtain rfl | rfl | rfl | rfl | rfl | rfl | rfl | rfl | rfl | rfl | rfl | rfl : j = 0 ∨ j = 1 ∨ j = 2 ∨ j = 3 ∨ j = 4 ∨ j = 5 ∨ j = 6 ∨ j = 7 ∨ j = 8 ∨ j = 9 ∨ j = 10 ∨ j = 11 := by omega
    all_goals rfl
  refine cfa_c (ceq_r rfl) ?_
  refine cfa_c (ceq_r rfl) ?_
  refine cfa_c (ceq_r rfl) ?_
  refine cfa_c (ceq_q (f := fun j => some (B + 5 + 1 + j)) (g := fun j => some (B + (5 + 1 + 1 * j))) (fun j hj => congrArg some (by omega))) ?_
  refine cfa_c (ceq_r rfl) ?_
  refine cfa_c (ceq_r rfl) ?_
  refine cfa_c (ceq_r rfl) ?_
  refine cfa_c (ceq_r rfl) ?_
  refine cfa_c (ceq_r rfl) ?_
  refine cfa_c (ceq_r rfl) ?_
  refine cfa_c (ceq_r rfl) ?_
  refine cfa_c (ceq_r rfl) ?_
  refine cfa_c (ceq_r rfl) ?_
  refine cfa_c (ceq_r rfl) ?_
  refine cfa_c (ceq_r rfl) ?_
  refine cfa_c (ceq_r rfl) ?_
  refine cfa_c (ceq_r rfl) ?_
  refine cfa_c (ceq_r rfl) ?_
  refine cfa_c (ceq_r rfl) ?_
  refine cfa_c (ceq_r rfl) ?_
  refine cfa_c (ceq_r rfl) ?_
  refine cfa_c (ceq_r rfl) ?_
  refine cfa_c (ceq_r rfl) ?_
  refine cfa_c (ceq_r rfl) ?_
  refine cfa_c (ceq_r rfl) ?_
  refine cfa_c (ceq_r rfl) ?_
  refine cfa_c (ceq_r rfl) ?_
  refine cfa_c (ceq_r rfl) ?_
  refine cfa_c (ceq_r rfl) ?_
  refine cfa_c (ceq_r rfl) ?_
  refine cfa_c (ceq_r rfl) ?_
  refine cfa_c (ceq_r rfl) ?_
  refine cfa_c (ceq_r rfl) ?_
  refine cfa_c (ceq_r rfl) ?_
  refine cfa_c (ceq_r rfl) ?_
  refine cfa_c (ceq_q (f := fun j => some (B + 30 + 7 + 1 + j)) (g := fun j => some (B + (37 + 1 + 1 * j))) (fun j hj => congrArg some (by omega))) ?_
  refine cfa_c (ceq_r rfl) ?_
  refine cfa_c (ceq_r rfl) ?_
  refine cfa_c (ceq_r rfl) ?_
  refine cfa_c (ceq_r rfl) ?_
  refine cfa_c (ceq_r rfl) ?_
  refine cfa_c (ceq_r rfl) ?_
  refine cfa_c (ceq_r rfl) ?_
  refine cfa_c (ceq_r rfl) ?_
  refine cfa_c (ceq_r rfl) ?_
  refine cfa_c (ceq_r rfl) ?_
  refine cfa_c (ceq_r rfl) ?_
  refine cfa_c (ceq_r rfl) ?_
  refine cfa_c (ceq_r rfl) ?_
  refine cfa_c (ceq_r rfl) ?_
  refine cfa_c (ceq_r rfl) ?_
  refine cfa_c (ceq_r rfl) ?_
  refine cfa_c (ceq_r rfl) ?_
  refine cfa_c (ceq_r rfl) ?_
  refine cfa_c (ceq_r rfl) ?_
  refine cfa_c (ceq_r rfl) ?_
  refine cfa_c (ceq_r rfl) ?_
  refine cfa_c (ceq_q (f := fun j => some (B + 54 + 5 + 1 + j)) (g := fun j => some (B + (59 + 1 + 1 * j))) (fun j hj => congrArg some (by omega))) ?_
  refine cfa_c (ceq_r rfl) ?_
  refine cfa_c (ceq_r rfl) ?_
  refine cfa_c (ceq_r rfl) ?_
  refine cfa_c (ceq_r rfl) ?_
  refine cfa_c (ceq_r rfl) ?_
  refine cfa_c (ceq_r rfl) ?_
  refine cfa_c (ceq_r rfl) ?_
  refine cfa_c (ceq_r rfl) ?_
  refine cfa_c (ceq_r rfl) ?_
  refine cfa_c (ceq_r rfl) ?_
  refine cfa_c (ceq_r rfl) ?_
  refine cfa_c (ceq_r rfl) ?_
  refine cfa_c (ceq_r rfl) ?_
  refine cfa_c (ceq_r rfl) ?_
  refine cfa_c (ceq_r rfl) ?_
  refine cfa_c (ceq_r rfl) ?_
  refine cfa_c (ceq_r rfl) ?_
  refine cfa_c (ceq_r rfl) ?_
  refine cfa_c (ceq_r rfl) ?_
  refine cfa_c (ceq_r rfl) ?_
  refine cfa_c (ceq_r rfl) ?_
  refine cfa_c (ceq_r rfl) ?_
  refine cfa_c (ceq_r rfl) ?_
  refine cfa_c (ceq_r rfl) ?_
  refine cfa_c (ceq_r rfl) ?_
  refine cfa_c (ceq_r rfl) ?_
  refine cfa_c (ceq_r rfl) ?_
  refine cfa_c (ceq_r rfl) ?_
  refine cfa_c (ceq_r rfl) ?_
  refine cfa_c (ceq_r rfl) ?_
  refine cfa_c (ceq_r rfl) ?_
  refine cfa_c (ceq_r rfl) ?_
  refine cfa_c (ceq_r rfl) ?_
  refine cfa_c (ceq_r rfl) ?_
  refine cfa_c (ceq_r rfl) ?_
  refine cfa_c (ceq_r rfl) ?_
  refine cfa_c (ceq_r rfl) ?_
  refine cfa_c (ceq_r rfl) ?_
  refine cfa_c (ceq_r rfl) ?_
  refine cfa_c (ceq_r rfl) ?_
  refine cfa_c (ceq_r rfl) ?_
  refine cfa_c (ceq_r rfl) ?_
  refine cfa_c (ceq_r rfl) ?_
  refine cfa_c (ceq_r rfl) ?_
  refine cfa_c (ceq_r rfl) ?_
  refine cfa_c (ceq_r rfl) ?_
  refine cfa_c (ceq_r rfl) ?_
  refine cfa_c (ceq_r rfl) ?_
  refine cfa_c (ceq_r rfl) ?_
  refine cfa_c (ceq_r rfl) ?_
  refine cfa_c (ceq_r rfl) ?_
  refine cfa_c (ceq_r rfl) ?_
  refine cfa_c (ceq_r rfl) ?_
  refine cfa_c (ceq_r rfl) ?_
  refine cfa_c (ceq_r rfl) ?_
  refine cfa_c (ceq_r rfl) ?_
  refine cfa_c (ceq_r rfl) ?_
  refine cfa_c (ceq_r rfl) ?_
  refine cfa_c (ceq_r rfl) ?_
  refine cfa_c (ceq_r rfl) ?_
  refine cfa_c (ceq_r rfl) ?_
  refine cfa_c (ceq_r rfl) ?_
  refine cfa_c (ceq_r rfl) ?_
  refine cfa_c (ceq_r rfl) ?_
  refine cfa_c (ceq_r rfl) ?_
  refine cfa_c (ceq_r rfl) ?_
  refine cfa_c (ceq_r rfl) ?_
  refine cfa_c (ceq_r rfl) ?_
  refine cfa_c (ceq_r rfl) ?_
  refine cfa_c (ceq_r rfl) ?_
  refine cfa_c (ceq_r rfl) ?_
  refine cfa_c (ceq_r rfl) ?_
  refine cfa_c (ceq_r rfl) ?_
  refine cfa_c (ceq_r rfl) ?_
  refine cfa_c (ceq_r rfl) ?_
  refine cfa_c (ceq_r rfl) ?_
  refine cfa_c (ceq_r rfl) ?_
  refine cfa_c (ceq_r rfl) ?_
  refine cfa_c (ceq_r rfl) ?_
  refine cfa_c (ceq_r rfl) ?_
  refine cfa_c (ceq_r rfl) ?_
  refine cfa_c (ceq_r rfl) ?_
  refine cfa_c (ceq_r rfl) ?_
  refine cfa_c (ceq_r rfl) ?_
  refine cfa_c (ceq_r rfl) ?_
  refine cfa_c (ceq_r rfl) ?_
  refine cfa_c (ceq_r rfl) ?_
  refine cfa_c (ceq_r rfl) ?_
  refine cfa_c (ceq_r rfl) ?_
  refine cfa_c (ceq_r rfl) ?_
  refine cfa_c (ceq_r rfl) ?_
  refine cfa_c (ceq_r rfl) ?_
  refine cfa_c (ceq_r rfl) ?_
  exact cfa_n
theorem LL7_len (cy : Nat → ClassId) (b : Nat) : (LL7 cy b).length = 132 := by
  simp only [LL7, LL6, LL0, LL1, LL2, LL3, LL4, LL5, List.nil_append, List.cons_append, List.append_assoc, List.set_cons_zero, List.set_cons_succ, List.replicate_succ, List.replicate_zero, List.length_cons, List.length_nil]
