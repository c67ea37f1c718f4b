/-! constructors: what is made lies in a row of addresses from b on -/
def adr : Nat → List va_E → va_W
  | _, [] => []
  | b, e :: r => (b, e) :: adr (b + 1) r
theorem adr_app (b : Nat) : ∀ (L L2 : List va_E), adr b (L ++ L2) = adr b L ++ adr (b + L.length) L2
  | [], L2 => by show adr b L2 = adr (b + 0) L2; rw [Nat.add_zero]
  | e :: r, L2 => by
    show (b, e) :: adr (b + 1) (r ++ L2) = (b, e) :: (adr (b + 1) r ++ adr (b + (r.length + 1)) L2)
    rw [adr_app (b + 1) r L2, show b + 1 + r.length = b + (r.length + 1) by omega]
theorem adr_len (b : Nat) : ∀ (L : List va_E), (adr b L).length = L.length
  | [] => rfl
  | e :: r => by show (adr (b + 1) r).length + 1 = r.length + 1; rw [adr_len (b + 1) r]
theorem adr_at : ∀ (b : Nat) (L : List va_E) (k : Nat), (adr b L)[k]? = (L[k]?).map (fun e => (b + k, e))
  | _, [], _ => rfl
  | b, e :: r, 0 => rfl
  | b, e :: r, k + 1 => by
    show (adr (b + 1) r)[k]? = (r[k]?).map _
    rw [adr_at (b + 1) r k]
    cases r[k]? with
    | none => rfl
    | some x => show some (b + 1 + k, x) = some (b + (k + 1), x); rw [show b + 1 + k = b + (k + 1) by omega]
theorem adr_set : ∀ (b : Nat) (L : List va_E) (k : Nat) (e : va_E), (adr b L).set k (b + k, e) = adr b (L.set k e)
  | _, [], _, _ => rfl
  | b, e :: r, 0, x => rfl
  | b, e :: r, k + 1, x => by
    show (b, e) :: (adr (b + 1) r).set k (b + (k + 1), x) = (b, e) :: adr (b + 1) (r.set k x)
    rw [← adr_set (b + 1) r k x, show b + 1 + k = b + (k + 1) by omega]
theorem adr_in {b : Nat} {L : List va_E} {k : Nat} {q : Nat × va_E} (h : (adr b L)[k]? = some q) : k < L.length ∧ q.1 = b + k := by
  rw [adr_at] at h
  cases e : L[k]? with
  | none => rw [e] at h; cases h
  | some x =>
    rw [e] at h
    cases h
    exact ⟨(List.getElem?_eq_some_iff.mp e).1, rfl⟩
theorem adr_D (b : Nat) (L : List va_E) : va_D (fun q => b ≤ q) (adr b L) := by
  refine ⟨fun i j x y hi hj hxy => ?_, fun k q hk => ?_⟩
  · have h1 := adr_in hi
    have h2 := adr_in hj
    omega
  · have h1 := adr_in hk
    show b ≤ q.1
    omega
/-- what the tables say besides -/
def ck_ok (U : State) : Prop := tk_nest U ∧ va_AO "TouchSheet$Shape" U ∧ (Cond.arrayOver (.array .int)).before #[] U = true
theorem ck_ok.warm {s U : State} (hW : s.WarmedH U.vm) (h : ck_ok s) : ck_ok U := ⟨h.1.warm hW, h.2.1.moved hW.alike, Jvm.Stand.arrayOver_alikeB hW.alike h.2.2⟩
theorem ck_ok.same {u U : State} (hv : u.vm = U.vm) (h : ck_ok u) : ck_ok U := ⟨h.1.same hv, h.2.1.moved (by rw [hv]; exact Vm.Alike.refl _), Jvm.Stand.arrayOver_alikeB (by rw [hv]; exact Vm.Alike.refl _) h.2.2⟩
def ck_W (D : va_G) (cy : Nat → ClassId) (b : Nat) (L : List va_E) (s : State) (H : Heap) (locs : List Loc) : Prop := va_K D vwCl (tk_ty cy) s ∧ va_P D vwCl (adr b L) H ∧ H.size = b + L.length ∧ va_S (fun q => b ≤ q) s.heap H locs ∧ b ≤ s.heap.size ∧ ck_ok s
def ck_rm (d mc ms : Nat) : Room := { frames := d, cells := mc, slots := ms, locals := 64 * d }
def ck_Pc (D : va_G) (cy : Nat → ClassId) (b : Nat) (e0 : va_E) : Array Value → State → Prop := fun v U => v = #[.ref b] ∧ va_K D vwCl (tk_ty cy) U ∧ va_P D vwCl (adr b [e0]) U.heap ∧ U.heap.size = b + 1 ∧ ck_ok U
def ck_Qc (D : va_G) (b : Nat) (LL : List va_E) : Array Value → State → Outcome → State → Prop := fun _ st oc t => (oc = .returned none ∧ va_P D vwCl (adr b LL) t.heap ∧ t.heap.size = b + LL.length) ∧ va_F (fun q => b ≤ q) st t
/-- a constructor's promise: out of the blank object at b it makes LL, from b on -/
def ck_C (y : MethodName) (cc : ByteArray) (nL d mc ms : Nat) (e0 : va_E) (LL : (Nat → ClassId) → Nat → List va_E) : Prop := ∀ (l : Launch) (D : va_G) (cy : Nat → ClassId) (b : Nat), Met l y (Cond.code y cc nL none :: wsL_law) (ck_rm d mc ms) (ck_Pc D cy b e0) (ck_Qc D b (LL cy b)) mc ms (fun q => b ≤ q)
def ck_X (own : String) (cc : ByteArray) (nL : Nat) (p : Program) (s : State) (m : MethodId) (args : Array Value) (meth : Method) (c : Code) : Prop := p.tables.exec = Jvm.exec ∧ c.code = cc ∧ c.maxLocals = nL ∧ s.vm.findClass own = some m.cls ∧ (∀ w ∈ wsL_law, w.before args s = true) ∧ meth.sig.returnType = none ∧ meth.locks = false ∧ meth.name = "<init>"
theorem ck_entry {y : MethodName} {own : String} {cc : ByteArray} {nL d mc ms : Nat} {e0 : va_E} {LL : (Nat → ClassId) → Nat → List va_E} (hy : plainName y.cls = true) (ho : y.cls = own) (hyi : y.name = "<init>") (hn : ∀ b : Nat, (lg_sl [Value.ref b]).length ≤ nL)
    (h : ∀ (p : Program) (l : Launch) (e : Env) (s : State) (m : MethodId) (below : List Frame) (meth : Method) (c : Code) (D : va_G) (cy : Nat → ClassId) (b : Nat) (ls : Array Slot), ck_X own cc nL p s m #[.ref b] meth c → ck_W D cy b [e0] s s.heap [] → s.heap.size = b + 1 → lv_has ls nL [(0, .ref b)] → W p l e (ck_rm d mc ms) s m #[.ref b] below meth c s.heap [] 0 0 (MQ below (ck_Qc D b (LL cy b)) #[.ref b] s mc ms (fun q => b ≤ q)) (F0 m 0 ls [])) : ck_C y cc nL d mc ms e0 LL := by
  intro l D cy b
  refine Met.ofW (cc := cc) (maxL := nL) (ret := none) hy rfl ?_
  intro p e s m args below meth c s₁ B hml hv0
  obtain ⟨rfl, hK, hP, hz, hok⟩ := hv0
  have hts := atoms_spec (ws := Cond.code y cc nL none :: wsL_law) B.pre
  have hown : s.vm.findClass y.cls = some m.cls := findClass_of_methodNamed B.named
  have hnm : meth.name = "<init>" := by rw [← hyi]; exact (name_of_methodNamed B.named B.method).1
  have hl := lv_entry [Value.ref b] (n := nL) (hn b)
  rw [show (#[Value.ref b] : Array Value) = ([Value.ref b] : List Value).toArray from rfl, lg_entry_eq]
  subst ho
  exact h p l e s m below meth c D cy b _ ⟨B.exec, B.bytes, hml, hown, fun w hw => hts w (List.mem_cons_of_mem _ hw), B.returns, B.notSynchronized, hnm⟩ ⟨hK, hP, hz, va_S.rf, by omega, hok⟩ hz hl
section CK
variable {p : Program} {l : Launch} {e : Env} {R : Room} {s : State} {m : MethodId} {args : Array Value} {below : List Frame} {meth : Method} {c : Code} {H : Heap} {locs : List Loc} {cells slots : Nat} {Z : State → Prop}
variable {cc : ByteArray} {pc : Nat} {ls : Array Slot} {rest : List Value} {D : va_G} {cy : Nat → ClassId} {b : Nat} {L : List va_E}
theorem ck_sz {g : JFrame} (h : H.size ≤ s.heap.size + cells → W p l e R s m args below meth c H locs cells slots Z g) : W p l e R s m args below meth c H locs cells slots Z g := fun T hT X => h (by rw [← hT]; exact X.heapSize) T hT X
theorem ck_grow (w : ck_W D cy b L s H locs) {H1 : Heap} {e1 : va_E} (hz : H1.size = b + L.length + 1) (ho : ∀ q, q < b + L.length → H1[q]? = H[q]?) (he : va_at D vwCl (b + L.length, e1) H1) : ck_W D cy b (L ++ [e1]) s H1 locs := by
  obtain ⟨hK, hP, hsz, hS, hb, hok⟩ := w
  refine ⟨hK, ?_, by rw [List.length_append, hz]; rfl, ⟨by have := hS.1; omega, fun x h1 h2 => (ho x (by have := hS.1; omega)).trans (hS.2.1 x h1 h2), hS.2.2⟩, hb, hok⟩
  rw [adr_app]
  refine (hP.kept (fun k x hx => ho x.1 (by have := adr_in hx; omega))).app (fun k x hx => ?_)
  have h1 := adr_in hx
  have hk : k = 0 := by have := h1.1; simp at this; omega
  subst hk
  cases hx
  exact he
theorem ck_chg (w : ck_W D cy b L s H locs) {H1 : Heap} {locs1 : List Loc} {k : Nat} {e1 : va_E} (hk : k < L.length) (hn : b + L.length = s.heap.size + cells) (hP1 : va_P D vwCl ((adr b L).set k (b + k, e1)) H1) (hS1 : va_S (fun q => b ≤ q) s.heap H1 locs1) (hz : H1.size ≤ s.heap.size + cells) : ck_W D cy b (L.set k e1) s H1 locs1 := by
  obtain ⟨hK, hP, hsz, hS, hb, hok⟩ := w
  rw [adr_set] at hP1
  refine ⟨hK, hP1, ?_, hS1, hb, hok⟩
  rw [List.length_set]
  have hlast : (adr b (L.set k e1))[L.length - 1]? = some (b + (L.length - 1), ((L.set k e1)[L.length - 1]'(by rw [List.length_set]; omega))) := by
    rw [adr_at, List.getElem?_eq_getElem (by rw [List.length_set]; omega)]
    rfl
  have h2 : b + (L.length - 1) < H1.size := (hP1 _ _ hlast).lt
  omega
theorem ck_new (hx : p.tables.exec = Jvm.exec) (hb : c.code = cc) (hts : ∀ w ∈ wsL_law, w.before args s = true) {own : String} (hown : s.vm.findClass own = some m.cls) (w : ck_W D cy b L s H locs) {C : String} {T : u_T} {N ci index : Nat} {fs : List Value} (hin : ∀ w ∈ u_ws C T N, w ∈ wsL_law) (ty : Nat → FieldType) (hty : ∀ k, k < N → parseFieldDescriptor (T k).2.2.1 = some (ty k)) (hcl : Cond.classLink own index C ∈ wsL_law) (hinst : Cond.instantiable C N ∈ wsL_law) (hini : Cond.initialized C ∈ wsL_law) (hc : vwCl[ci]? = some (C, T, N)) (hfs : ∀ j, j < N → defaultValue (ty j) = vp_V fs j) (hcells : cells + 1 ≤ R.cells) (hslots : slots + N ≤ R.slots) (hdg : decode cc pc = .ok (.new index, 3))
    (kk : ∀ (H1 : Heap), ck_W D cy b (L ++ [.inr (ci, fs)]) s H1 locs → W p l e R s m args below meth c H1 locs (cells + 1) (slots + N) Z (F0 m (pc + 3) ls (.ref (b + L.length) :: rest))) : W p l e R s m args below meth c H locs cells slots Z (F0 m pc ls rest) := by
  have hKn := w.1.1 ci _ hc
  refine W.newcK hx hb hown (hts _ hcl) (hts _ hinst) (hts _ hini) rfl hdg hcells hslots hKn.2.1 w.2.2.1 fun H1 kC hkC e1 z1 o1 => ?_
  exact kk H1 (ck_grow w z1 o1 ⟨_, hc, (u_born ty hts hin hKn hkC e1 hty).to hfs⟩)
theorem ck_newa (hx : p.tables.exec = Jvm.exec) (hb : c.code = cc) (hts : ∀ w ∈ wsL_law, w.before args s = true) (w : ck_W D cy b L s H locs) {atype : ArrayType} {t : Nat} (ht : (tk_ty cy)[t]? = some (cy t, newarray.typeOf atype)) (hra : va_RA s (cy t) (newarray.typeOf atype) → s.vm.findClass ("[" ++ (newarray.typeOf atype).toString) = some (cy t)) (hd0 : defaultValue (newarray.typeOf atype) = .int 0) (harr : Cond.arrayClass (newarray.typeOf atype) ∈ wsL_law) {n : Int32} {N' : Nat} (hn : ¬ n < 0) (hN : n.toNatClampNeg = N') (hbytes : N' * componentBytes (newarray.typeOf atype) ≤ 536870912) (hcells : cells + 1 ≤ R.cells) (hslots : slots + N' ≤ R.slots) (hdg : decode cc pc = .ok (.newarray atype, 2))
    (kk : ∀ (H1 : Heap), ck_W D cy b (L ++ [.inl (cy t, N', .inl (fun _ => 0))]) s H1 locs → W p l e R s m args below meth c H1 locs (cells + 1) (slots + N') Z (F0 m (pc + 2) ls (.ref (b + L.length) :: rest))) : W p l e R s m args below meth c H locs cells slots Z (F0 m pc ls (.int n :: rest)) := by
  refine va_newaK hx hb (hts _ harr) rfl hdg rfl hn hN hbytes hcells hslots w.2.2.1 fun H1 cA e1 z1 o1 _ hNm => ?_
  have hcA : cA = cy t := Option.some.inj (hNm.symm.trans (hra (w.1.2 t _ ht).2))
  subst hcA
  refine kk H1 (ck_grow w z1 o1 ?_)
  show H1[b + L.length]? = some (vp_cell _ _)
  rw [e1, hd0]
  rfl
theorem ck_newq (hx : p.tables.exec = Jvm.exec) (hb : c.code = cc) (hts : ∀ w ∈ wsL_law, w.before args s = true) {own : String} (hown : s.vm.findClass own = some m.cls) (w : ck_W D cy b L s H locs) {index : Nat} (hcl : Cond.classLink own index "TouchSheet$Shape" ∈ wsL_law) {n : Int32} {N' : Nat} (hn : ¬ n < 0) (hN : n.toNatClampNeg = N') (hbytes : N' * 4 ≤ 536870912) (hcells : cells + 1 ≤ R.cells) (hslots : slots + N' ≤ R.slots) (hdg : decode cc pc = .ok (.anewarray index, 3))
    (kk : ∀ (H1 : Heap), ck_W D cy b (L ++ [.inl (cy 2, N', .inr (.inr (.inr (.inr (fun _ => none)))))]) s H1 locs → W p l e R s m args below meth c H1 locs (cells + 1) (slots + N') Z (F0 m (pc + 3) ls (.ref (b + L.length) :: rest))) : W p l e R s m args below meth c H locs cells slots Z (F0 m pc ls (.int n :: rest)) := by
  subst hN
  refine W.anew hx hb hown (hts _ hcl) (va_AO.use w.2.2.2.2.2.2.1) rfl hdg rfl hn hbytes hcells hslots fun cA kA comp f1 f2 f3 f4 => ?_
  have hcA : cA = cy 2 := by
    obtain ⟨_, _, _, _, _, h4⟩ := (w.1.2 2 _ (rfl : (tk_ty cy)[2]? = some (cy 2, .object "TouchSheet$Shape"))).2
    exact Option.some.inj (f1.symm.trans h4)
  subst hcA
  rw [w.2.2.1]
  generalize hH1 : H.push ({ cls := cy 2, slots := Array.replicate n.toNatClampNeg .null, vm := .none } : Cell) = H1
  have hzz := w.2.2.1
  have z1 : H1.size = b + L.length + 1 := by rw [← hH1, Array.size_push, hzz]
  have e1 : H1[b + L.length]? = some (arrV (cy 2) n.toNatClampNeg (fun _ => .null)) := by rw [← hH1, ← hzz, Array.getElem?_push_size, ← arrV_new]
  have o1 : ∀ q : Nat, q < b + L.length → H1[q]? = H[q]? := fun q hq => by rw [← hH1, Array.getElem?_push, if_neg (by omega)]
  exact kk H1 (ck_grow w z1 o1 e1)
theorem arrV_c (cI : ClassId) (N : Nat) {f g : Nat → Value} (h : ∀ j, j < N → f j = g j) : arrV cI N f = arrV cI N g := by
  unfold arrV
  congr 1
  apply Array.ext
  · simp
  · intro i h1 h2
    simp only [Array.getElem_ofFn]
    exact h i (by simpa using h1)
theorem ck_outer (cA : ClassId) (N h0 : Nat) : ∀ i : Nat, Jvm.Free.Multi.outerC cA N h0 i = arrV cA N (fun j => if j < i then .ref (h0 + 1 + j) else .null)
  | 0 => by
    show ({ cls := cA, slots := Array.replicate N .null, vm := .none } : Cell) = _
    rw [arrV_new]
    exact arrV_c _ _ (fun j _ => by simp)
  | i + 1 => by
    show (Jvm.Free.Multi.outerC cA N h0 i).setSlot i (.ref (h0 + 1 + i)) = _
    rw [ck_outer cA N h0 i, arrV_store]
    refine arrV_c _ _ (fun j _ => ?_)
    unfold updV
    by_cases e : j = i
    · subst e; simp
    · by_cases h : j < i
      · simp [e, h, show j < i + 1 by omega]
      · simp [e, h, show ¬ j < i + 1 by omega]
theorem ck_rows (w : ck_W D cy b L s H locs) {F : Heap} {e1 : va_E} : ∀ n, F.size = b + L.length + n → (∀ q, q < b + L.length → F[q]? = H[q]?) → (∀ j, j < n → va_at D vwCl (b + L.length + j, e1) F) → ck_W D cy b (L ++ List.replicate n e1) s F locs := by
  intro n hz ho he
  obtain ⟨hK, hP, hsz, hS, hb, hok⟩ := w
  refine ⟨hK, ?_, by rw [List.length_append, List.length_replicate, hz, Nat.add_assoc], ⟨by have := hS.1; omega, fun x h1 h2 => (ho x (by have := hS.1; omega)).trans (hS.2.1 x h1 h2), hS.2.2⟩, hb, hok⟩
  rw [adr_app]
  refine (hP.kept (fun k x hx => ho x.1 (by have := adr_in hx; omega))).app (fun k x hx => ?_)
  have h1 := adr_in hx
  rw [List.length_replicate] at h1
  rw [adr_at, List.getElem?_replicate, if_pos h1.1] at hx
  cases hx
  exact he k h1.1
theorem ck_mna (hx : p.tables.exec = Jvm.exec) (hb : c.code = cc) (hts : ∀ w ∈ wsL_law, w.before args s = true) {own : String} (hown : s.vm.findClass own = some m.cls) (w : ck_W D cy b L s H locs) {index : Nat} (hcl : Cond.classLink own index "[[I" ∈ wsL_law) (harr : Cond.arrayClass .int ∈ wsL_law) {n k : Int32} {N' K' : Nat} (hn : ¬ n < 0) (hk : ¬ k < 0) (hN : n.toNatClampNeg = N') (hM : k.toNatClampNeg = K') (hb1 : N' * 4 ≤ 536870912) (hb2 : K' * 4 ≤ 536870912) (hcells : cells + (1 + N') ≤ R.cells) (hslots : slots + (N' + N' * K') ≤ R.slots) (hdg : decode cc pc = .ok (.multianewarray index 2, 4))
    (kk : ∀ (H1 : Heap), ck_W D cy b ((L ++ [.inl (cy 3, N', .inr (.inr (.inr (.inr (fun j => some (b + L.length + 1 + j))))))]) ++ List.replicate N' (.inl (cy 0, K', .inl (fun _ => 0)))) s H1 locs → W p l e R s m args below meth c H1 locs (cells + (1 + N')) (slots + (N' + N' * K')) Z (F0 m (pc + 4) ls (.ref (b + L.length) :: rest))) : W p l e R s m args below meth c H locs cells slots Z (F0 m pc ls (.int k :: .int n :: rest)) := by
  subst hN
  subst hM
  have hzz := w.2.2.1
  intro T hT Xs
  obtain ⟨vm₁, cA, comp, -, fA, fC, hO, -, X', step⟩ := Xs.multianewarray2F hx hown (ty := .int) (hts _ hcl) w.2.2.2.2.2.2.2 (hts _ harr) (g := F0 m pc ls (.int k :: .int n :: rest)) rfl (by rw [hb]; exact hdg) rfl hn hk hb1 hb2 (by omega) rfl rfl hcells hslots
  have hcA : cA = cy 3 := Option.some.inj (fA.symm.trans (w.1.2 3 _ (rfl : (tk_ty cy)[3]? = some (cy 3, .array .int))).2)
  have hcC : comp = cy 0 := Option.some.inj (fC.symm.trans (w.1.2 0 _ (rfl : (tk_ty cy)[0]? = some (cy 0, .int))).2)
  subst hcA
  subst hcC
  generalize hF : Jvm.Free.Multi.fill (T.setVm vm₁) (cy 3) (cy 0) n.toNatClampNeg k.toNatClampNeg (defaultValue .int) n.toNatClampNeg = F at X' step
  have hTh : (T.setVm vm₁).heap = H := hT
  obtain ⟨f1, f2, -, -⟩ := Jvm.Free.Multi.fill_facts (T.setVm vm₁) (cy 3) (cy 0) n.toNatClampNeg k.toNatClampNeg (defaultValue .int) n.toNatClampNeg
  rw [hF, hTh] at f1 f2
  have hold : ∀ x : Nat, x < b + L.length → F.heap[x]? = H[x]? := fun x hx' => by
    have := Jvm.Free.Multi.fill_old (T.setVm vm₁) (cy 3) (cy 0) n.toNatClampNeg k.toNatClampNeg (defaultValue .int) (a := x) (by rw [hTh, hzz]; exact hx') n.toNatClampNeg
    rw [hF, hTh] at this
    exact this
  have hrow : ∀ j : Nat, j < n.toNatClampNeg → F.heap[b + L.length + 1 + j]? = some (vp_cell (cy 0) (k.toNatClampNeg, .inl (fun _ => 0))) := fun j hj => by
    have := Jvm.Free.Multi.fill_inner (T.setVm vm₁) (cy 3) (cy 0) n.toNatClampNeg k.toNatClampNeg (defaultValue .int) n.toNatClampNeg j hj
    rw [hF, hTh, hzz] at this
    rw [this]
    congr 1
    exact arrV_new _ _ _
  rw [hzz] at f1 f2
  -- the outer one as if pushed alone, the inner ones behind it
  have w1 : ck_W D cy b ((L ++ [.inl (cy 3, n.toNatClampNeg, .inr (.inr (.inr (.inr (fun j => some (b + L.length + 1 + j))))))]) ++ List.replicate n.toNatClampNeg (.inl (cy 0, k.toNatClampNeg, .inl (fun _ => 0)))) s F.heap locs := by
    obtain ⟨hK, hP, hsz, hS, hb', hok⟩ := w
    refine ⟨hK, ?_, by rw [List.length_append, List.length_append, List.length_replicate, f1, List.length_singleton]; omega, ⟨by have := hS.1; omega, fun x h1 h2 => (hold x (by have := hS.1; omega)).trans (hS.2.1 x h1 h2), hS.2.2⟩, hb', hok⟩
    rw [adr_app, adr_app]
    refine ((hP.kept (fun k x hx => hold x.1 (by have := adr_in hx; omega))).app (fun k x hx => ?_)).app (fun k x hx => ?_)
    · have h1 := adr_in hx
      have hk : k = 0 := by have := h1.1; simp at this; omega
      subst hk
      cases hx
      show F.heap[b + L.length]? = some (vp_cell _ _)
      rw [f2, ck_outer, vp_cell_q]
      congr 1
      refine arrV_c _ _ (fun j hj => ?_)
      rw [if_pos hj]
      rfl
    · have h1 := adr_in hx
      rw [List.length_replicate] at h1
      rw [adr_at, List.getElem?_replicate, if_pos h1.1] at hx
      cases hx
      show F.heap[b + (L ++ [_]).length + k]? = some (vp_cell _ _)
      rw [List.length_append, List.length_singleton, ← Nat.add_assoc]
      exact hrow k h1.1
  obtain ⟨t, a1, b1⟩ := kk F.heap w1 F rfl (by rw [← Nat.add_assoc, ← Nat.add_assoc]; exact X')
  refine ⟨t, step t ?_, b1⟩
  have e : T.heap.size = b + L.length := by rw [hT, hzz]
  rw [e]
  exact a1
end CK
