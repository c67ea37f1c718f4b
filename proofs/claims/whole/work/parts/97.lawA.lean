/-! THE CLAIM OUT OF ONE WALK OF THE LAW'S BODY. Your part is whole_start (and what it stands on); all else here is the same for every law, but numbers. -/
def R_law : String := "TouchSheetLaw"
def lw_P (b : Addr) (xs : List Int32) (args : Array Value) (s : State) : Prop := args = #[.ref b] ∧ s.IntsAt b xs ∧ xs.length ≤ 3072 ∧ (Jvm.Cond.and given_1 narrow_1).before args s = true
def lw_Q (_ : Array Value) (s : State) (o : Outcome) (t : State) : Prop := o = .returned (some (.int 1)) ∧ Framed s o t [] 600000 7302250
def lw_Z (below : List Frame) (a : Array Value) (s : State) : State → Prop := fun t => ∃ o, t.status = .running ∧ Ended t below o ∧ lw_Q a s o t
/-- the law's own end, with 1 on the stack, nothing written that was there before, its room as the claim has it -/
theorem lw_ret {p : Program} {l : Launch} {e : Env} {s : State} {m : MethodId} {below : List Frame} {meth : Method} {c : Code} {b : Nat} (hx : p.tables.exec = Jvm.exec) (hb : c.code = code) (hr : meth.sig.returnType = ret) (hlocks : meth.locks = false) {pc : Nat} {H : Heap} {ls : Array Slot} (hdg : decode code pc = .ok (.ireturn, 1)) : W p l e room_1 s m #[Value.ref b] below meth c H [] 600000 7302250 (lw_Z below #[Value.ref b] s) (F0 m pc ls [.int 1]) := by
  intro T hT X
  obtain ⟨fs, hret, hrun, hended, hW, hframe⟩ := X.leave (v := some (.int 1)) (hlocks := hlocks) (fun h => by rw [hr] at h; cases h)
  have hmeth' : T.vm.method? m = some meth := X.method'
  refine ⟨T.setFrames fs, ?_, .returned (some (.int 1)), hrun, hended, rfl, ⟨_, rfl⟩, hW, hframe⟩
  jvm_step X.here [X.here.top, hx, hb, hdg, hmeth', hr, ret, narrow_b1]
  (try refine ⟨rfl, ?_⟩); (try refine ⟨rfl, ?_⟩)
  first | (intro acts; rw [hret _ acts rfl rfl rfl]) | rw [hret _ _ rfl rfl rfl]
  exact Steps.refl _
/-- what holds at the law's entry: the machine, the code, the tables' words (any of lw_tbl by 'hts w (by decide +kernel)'), the script of L ints xs at the cell b, what the Statement gives of the start (any of its parts by flat_of_before) -/
def lw_At (p : Program) (s : State) (m : MethodId) (meth : Method) (c : Code) (b L : Nat) (xs : Nat → Int32) : Prop :=
  p.tables.exec = Jvm.exec ∧ c.code = code ∧ meth.sig.returnType = ret ∧ c.maxLocals = 4 ∧ s.vm.findClass R_law = some m.cls ∧ (∀ w ∈ lw_tbl, w.before #[Value.ref b] s = true) ∧ va_X b L xs s s.heap ∧ b < s.heap.size ∧ meth.locks = false ∧ (Jvm.Cond.and given_1 narrow_1).before #[Value.ref b] s = true
section LK
variable {p : Program} {l : Launch} {e : Env} {s : State} {m : MethodId} {args : Array Value} {below : List Frame} {meth : Method} {c : Code} {H : Heap} {locs : List Loc} {cells slots : Nat} {Z : State → Prop}
variable {cc : ByteArray} {pc : Nat} {ls : Array Slot} {rest st0 : List Value} {D : va_G} {cy : Nat → ClassId} {ad : Nat → Nat} {base : Nat} {σ : tk_S}
theorem lc_call {d nL0 : Nat} {own : String} (hx : p.tables.exec = Jvm.exec) (hb : c.code = cc) (hml : c.maxLocals = nL0) (hown : s.vm.findClass own = some m.cls) (hts : ∀ w ∈ wsL_law, w.before args s = true) (w : tk_W D cy ad base σ s H locs) {y : MethodName} {bytes : ByteArray} {maxL index : Nat} {ret : Option FieldType} {k ci : Nat} {fs : List (Nat × Nat)} (hs : tk_sh k = .inl (ci, fs)) {T : u_T} {N : Nat} (hc : vwCl[ci]? = some (y.cls, T, N)) {as : List tk_V} {Q' : Option tk_V → tk_S → Prop} (hcode : Cond.code y bytes maxL ret ∈ wsL_law) (hini : Cond.initialized y.cls ∈ wsL_law) (hl : Cond.methodLink own index y ∈ wsL_law) (hst : Cond.instanceMethod y ∈ wsL_law) (hse : Cond.selects y.cls y y ∈ wsL_law) (hd : y.cls ≠ "java/lang/invoke/MethodHandle" ∧ y.cls ≠ "java/lang/invoke/VarHandle" ∧ (parseMethodDescriptor y.desc).map (fun d => d.parameters.length) = some as.length) (hR : d + 1 ≤ room_1.frames ∧ 8 + (maxL + 11) + 64 * d ≤ room_1.locals) (hf : cells ≤ room_1.cells ∧ slots ≤ room_1.slots) (hsz : ls.size = nL0) (hrest : (rest.map fun v => v.category).sum ≤ 8) (hstk : st0 = (as.map (toV ad)).reverse ++ .ref (ad k) :: rest) (hdg : decode cc pc = .ok (.invokevirtual index, 3)) (hC : tk_C y bytes maxL ret d (aN k :: as) σ Q')
    (kk : ∀ (r : Option tk_V) (σ1 : tk_S) (H1 : Heap) (locs1 : List Loc), Q' r σ1 → tk_W D cy ad base σ1 s H1 locs1 → W p l e room_1 s m args below meth c H1 locs1 cells slots Z (F0 m (pc + 3) ls ((r.map (toV ad)).toList ++ rest))) : W p l e room_1 s m args below meth c H locs cells slots Z (F0 m pc ls st0) :=
  tk_after w (va_runV (As := as.map (toV ad)) (b := ad k) (C := y.cls) ⟨hx, hb, hml, hown, hts⟩ (hC l D cy ad base) ⟨callB_of as.length hts (tk_gin hcode) rfl rfl rfl (hts _ hini) (hts _ hl) hd hR, hts _ hst, hts _ hse⟩ ⟨tk_blind, va_recv w.1 w.2.1 hc (tk_eo hs), fun U hU hW => tk_pre (as := aN k :: as) w U hU hW⟩ rfl (List.length_map ..) hsz hstk (lv_room hrest) hdg hf) kk
end LK
/-- what every case of the law has -/
def lk_X (p : Program) (s : State) (m : MethodId) (args : Array Value) (c : Code) (b L : Nat) (xs : Nat → Int32) : Prop := p.tables.exec = Jvm.exec ∧ c.code = cL_law ∧ c.maxLocals = 4 ∧ s.vm.findClass RL = some m.cls ∧ (∀ w ∈ wsL_law, w.before args s = true) ∧ va_X b L xs s s.heap ∧ b < s.heap.size ∧ L ≤ 3072
def lk_K (p : Program) (l : Launch) (e : Env) (s : State) (m : MethodId) (args : Array Value) (below : List Frame) (meth : Method) (c : Code) (Z : State → Prop) (D : va_G) (cy : Nat → ClassId) (ad : Nat → Nat) (i pc b : Nat) : Prop := ∀ (σ : tk_S) (H : Heap) (locs : List Loc) (ls : Array Slot), Rel σ → tk_W D cy ad s.heap.size σ s H locs → lv_has ls 4 [(3, .int (nI i)), (2, .ref (ad 132)), (1, .ref (ad 0)), (0, .ref b)] → W p l e room_1 s m args below meth c H locs 153 10500 Z (F0 m pc ls [])
