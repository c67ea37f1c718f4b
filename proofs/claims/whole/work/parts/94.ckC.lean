theorem ck_blind {D : va_G} {cy : Nat → ClassId} {b : Nat} {e0 : va_E} : FrameBlind (ck_Pc D cy b e0) := by
  intro a U g mk q
  obtain ⟨q0, qK, qP, qz, qo⟩ := q
  exact ⟨q0, va_K.moved (u := U) (U := U.calling g mk a) (Vm.Alike.refl U.vm) qK, qP, qz, ck_ok.same (u := U) (U := U.calling g mk a) rfl qo⟩
section CKC
variable {p : Program} {l : Launch} {e : Env} {R : Room} {s : State} {m : MethodId} {args : Array Value} {below : List Frame} {meth : Method} {c : Code} {H : Heap} {locs : List Loc} {cells slots : Nat} {Z : State → Prop}
variable {cc : ByteArray} {pc nL : Nat} {ls : Array Slot} {rest : List Value} {D : va_G} {cy : Nat → ClassId} {b : Nat} {o : va_E} {K : List va_E} {own : String}
theorem ck_pre {L : List va_E} {e0 : va_E} {a : Nat} (w : ck_W D cy b (L ++ [e0]) s H locs) (ha : b + L.length = a) (U : State) (hU : U.heap = H) (hW : s.WarmedH U.vm) : ck_Pc D cy a e0 #[.ref a] U := by
  subst ha
  obtain ⟨hK, hP, hsz, hS, hb, hok⟩ := w
  refine ⟨rfl, va_K.moved hW.alike hK, ?_, by rw [hU, hsz, List.length_append, Nat.add_assoc]; rfl, hok.warm hW⟩
  rw [hU]
  rw [adr_app] at hP
  intro k q hk
  refine hP (L.length + k) q ?_
  rw [List.getElem?_append_right (by rw [adr_len]; omega), adr_len, show L.length + k - L.length = k by omega]
  exact hk
/-- new, dup, invokespecial -/
theorem cb_mk (Xc : ck_X own cc nL p s m args meth c) (w : ck_W D cy b (o :: K) s H locs) (hK : K.length = cells) {C : String} {T : u_T} {N ci ix0 : Nat} {fs : List Value} (hin : ∀ w ∈ u_ws C T N, w ∈ wsL_law) (ty : Nat → FieldType) (hty : ∀ k, k < N → parseFieldDescriptor (T k).2.2.1 = some (ty k)) (hcl : Cond.classLink own ix0 C ∈ wsL_law) (hinst : Cond.instantiable C N ∈ wsL_law) (hini : Cond.initialized C ∈ wsL_law) (hc : vwCl[ci]? = some (C, T, N)) (hfs : ∀ j, j < N → defaultValue (ty j) = vp_V fs j)
    {mc ms a cells1 slots1 : Nat} {LL : (Nat → ClassId) → Nat → List va_E} (hLL : (LL cy a).length = mc + 1) (ha : b + (cells + 1) = a) (h1 : cells + 1 + mc = cells1) (h2 : slots + N + ms = slots1) (hcells : cells1 ≤ R.cells) (hslots : slots1 ≤ R.slots)
    (hrun : ∀ (H1 : Heap), ck_W D cy b ((o :: K) ++ [.inr (ci, fs)]) s H1 locs → va_Run p l e R s m args below meth c H1 locs (cells + 1) (slots + N) mc ms (F0 m (pc + 4) ls (.ref a :: .ref a :: rest)) (.ref a :: rest) (ck_Qc D a (LL cy a) #[.ref a]) (fun q => a ≤ q))
    (hdg1 : decode cc pc = .ok (.new ix0, 3)) (hdg2 : decode cc (pc + 3) = .ok (.dup, 1))
    (kk : ∀ (H1 : Heap) (locs1 : List Loc) (K1 : List va_E), K1 = K ++ LL cy a → K1.length = cells1 → ck_W D cy b (o :: K1) s H1 locs1 → W p l e R s m args below meth c H1 locs1 cells1 slots1 Z (F0 m (pc + 7) ls (.ref a :: rest))) : W p l e R s m args below meth c H locs cells slots Z (F0 m pc ls rest) := by
  obtain ⟨hx, hb, hml, hown, hts, hr, hlk, hnmI⟩ := Xc
  have hal : b + (o :: K).length = a := by rw [← ha, ← hK]; rfl
  refine ck_new hx hb hts hown w hin ty hty hcl hinst hini hc hfs (by omega) (by omega) hdg1 (fun H1 w1 => ?_)
  rw [hal]
  refine lv_dup hx hb hdg2 rfl ?_
  refine cb_after w1 hal (hrun H1 w1) (fun H2 locs2 w2 => ?_)
  have := kk H2 locs2 (K ++ LL cy a) rfl (by rw [List.length_append, hLL, hK, ← h1]; omega) w2
  rw [← h1, ← h2] at this
  exact this
theorem cb_runN {d d1 MC MS : Nat} {L : List va_E} {e0 : va_E} (Xc : ck_X own cc nL p s m args meth c) (w : ck_W D cy b (L ++ [e0]) s H locs) {y : MethodName} {bytes : ByteArray} {maxL mc ms index a : Nat} {host : String} {LL : (Nat → ClassId) → Nat → List va_E} (ha : b + L.length = a) (hM : ck_C y bytes maxL d1 mc ms e0 LL) (hcode : Cond.code y bytes maxL none ∈ wsL_law) (hini : Cond.initialized y.cls ∈ wsL_law) (hst : Cond.instanceMethod y ∈ wsL_law) (hl : Cond.methodLinkNest own index y host ∈ tk_nl) (hyn : y.name = "<init>") (hd : y.cls ≠ "java/lang/invoke/MethodHandle" ∧ y.cls ≠ "java/lang/invoke/VarHandle" ∧ (parseMethodDescriptor y.desc).map (fun d => d.parameters.length) = some 0) (hmx : maxL ≤ 45) (hd1 : d1 < d) (hsz : ls.size = nL) (hrest : (rest.map fun v => v.category).sum ≤ 8) (hdg : decode cc pc = .ok (.invokespecial index, 3)) (hf : cells + mc ≤ MC ∧ slots + ms ≤ MS) : va_Run p l e (ck_rm d MC MS) s m args below meth c H locs cells slots mc ms (F0 m pc ls (.ref a :: rest)) rest (ck_Qc D a (LL cy a) #[.ref a]) (fun q => a ≤ q) := by
  obtain ⟨hx, hb, hml, hown, hts, hr, hlk, hnmI⟩ := Xc
  exact va_runIN (b := a) (As := []) (rest := rest) (g := F0 m pc ls (.ref a :: rest)) ⟨hx, hb, hml, hown, hts⟩ (hM l D cy a) ⟨va_cnB 0 hts (tk_gin hcode) rfl rfl rfl (w.2.2.2.2.2.1 _ hl) (hts _ hini) hd ⟨hd1, by show 8 + (maxL + 11) + 64 * d1 ≤ 64 * d; omega⟩, hyn, hts _ hst⟩ ⟨ck_blind, fun U hU hW => ck_pre w ha U hU hW⟩ rfl rfl hsz rfl (lv_room hrest) hdg hf
theorem cb_runP {L : List va_E} {e0 : va_E} (hx : p.tables.exec = Jvm.exec) (hb : c.code = cc) (hml : c.maxLocals = nL) (hown : s.vm.findClass own = some m.cls) (hts : ∀ w ∈ wsL_law, w.before args s = true) (w : ck_W D cy b (L ++ [e0]) s H locs) {y : MethodName} {bytes : ByteArray} {maxL d1 mc ms index a : Nat} {LL : (Nat → ClassId) → Nat → List va_E} (ha : b + L.length = a) (hM : ck_C y bytes maxL d1 mc ms e0 LL) (hcode : Cond.code y bytes maxL none ∈ wsL_law) (hini : Cond.initialized y.cls ∈ wsL_law) (hst : Cond.instanceMethod y ∈ wsL_law) (hl : Cond.methodLink own index y ∈ wsL_law) (hyn : y.name = "<init>") (hd : y.cls ≠ "java/lang/invoke/MethodHandle" ∧ y.cls ≠ "java/lang/invoke/VarHandle" ∧ (parseMethodDescriptor y.desc).map (fun d => d.parameters.length) = some 0) (hR : d1 + 1 ≤ R.frames ∧ 8 + (maxL + 11) + 64 * d1 ≤ R.locals) (hsz : ls.size = nL) (hrest : (rest.map fun v => v.category).sum ≤ 8) (hdg : decode cc pc = .ok (.invokespecial index, 3)) (hf : cells + mc ≤ R.cells ∧ slots + ms ≤ R.slots) : va_Run p l e R s m args below meth c H locs cells slots mc ms (F0 m pc ls (.ref a :: rest)) rest (ck_Qc D a (LL cy a) #[.ref a]) (fun q => a ≤ q) :=
  va_runI (b := a) (As := []) (rest := rest) (g := F0 m pc ls (.ref a :: rest)) ⟨hx, hb, hml, hown, hts⟩ (hM l D cy a) (cwI 0 hts (tk_gin hcode) rfl rfl rfl (hts _ hini) (hts _ hl) (hts _ hst) hyn hd hR) ⟨ck_blind, fun U hU hW => ck_pre w ha U hU hW⟩ rfl rfl hsz rfl (lv_room hrest) hdg hf
end CKC
