/-! constructors' rows: the object at b, what it made behind it -/
theorem cb_wi : Cond.arrayClass .int ∈ wsL_law := inr_1 (List.mem_of_getElem? (i := 14) rfl)
theorem cb_wz : Cond.arrayClass .boolean ∈ wsL_law := inr_5 (List.mem_of_getElem? (i := 12) rfl)
theorem cb_w1 : Cond.instanceMethod objectInit ∈ wsL_law := inr_1 (List.mem_of_getElem? (i := 10) rfl)
theorem cb_w2 : Cond.code objectInit ⟨#[0xb1]⟩ 1 none ∈ wsL_law := inr_1 (List.mem_of_getElem? (i := 11) rfl)
section CKB
variable {p : Program} {l : Launch} {e : Env} {R : Room} {s : State} {m : MethodId} {args : Array Value} {below : List Frame} {meth : Method} {c : Code} {H : Heap} {locs : List Loc} {cells slots : Nat} {Z : State → Prop}
variable {cc : ByteArray} {pc nL : Nat} {ls : Array Slot} {rest : List Value} {D : va_G} {cy : Nat → ClassId} {b : Nat} {o : va_E} {K : List va_E} {own : String}
theorem cb_put (Xc : ck_X own cc nL p s m args meth c) {ci : Nat} {fs : List Value} (w : ck_W D cy b (.inr (ci, fs) :: K) s H locs) (hz : s.heap.size = b + 1) (hK : K.length = cells) {Cn : String} {T : u_T} {N : Nat} (hc : vwCl[ci]? = some (Cn, T, N)) (hin : ∀ w ∈ u_ws Cn T N, w ∈ wsL_law) (ty0 : Nat → FieldType) (hty : ∀ k, k < N → parseFieldDescriptor (T k).2.2.1 = some (ty0 k)) (hnm : ∀ a, a < N → ∀ b, b < N → a ≠ b → (T a).2.1 ≠ (T b).2.1) (j : Nat) (hj : j < N) {index : Nat} (hlink : Cond.fieldLink own index (T j).1 (T j).2.1 (T j).2.2.1 ∈ wsL_law) (hdecl : (T j).1 = own) {ty : FieldType} {v : Value} (hd : parseFieldDescriptor (T j).2.2.1 = some ty) (hn : narrow ty v = v) (hfit : fits ty v = true) (hl : j < fs.length) (hdg : decode cc pc = .ok (.putfield index, 3))
    (kk : ∀ (H1 : Heap) (locs1 : List Loc), ck_W D cy b (.inr (ci, fs.set j v) :: K) s H1 locs1 → W p l e R s m args below meth c H1 locs1 cells slots Z (F0 m (pc + 3) ls rest)) : W p l e R s m args below meth c H locs cells slots Z (F0 m pc ls (v :: .ref b :: rest)) := by
  obtain ⟨hx, hb, hml, hown, hts, hr, hlk, hnmI⟩ := Xc
  have fin : ∀ (H1 : Heap) (locs1 : List Loc), va_P D vwCl ((adr b (.inr (ci, fs) :: K)).set 0 (b + 0, .inr (ci, fs.set j v))) H1 → va_S (fun q => b ≤ q) s.heap H1 locs1 → W p l e R s m args below meth c H1 locs1 cells slots Z (F0 m (pc + 3) ls rest) := fun H1 locs1 hP hS =>
    ck_sz (fun hs1 => kk H1 locs1 (ck_chg w (k := 0) (e1 := .inr (ci, fs.set j v)) (Nat.zero_lt_succ _) (by show b + (K.length + 1) = _; rw [hz, hK]; omega) hP hS hs1))
  cases hfin : (T j).2.2.2 with
  | true => exact va_putF hx hb hts hin ty0 hty hnm hown w.1 w.2.1 (adr_D b _) w.2.2.2.1 0 (by rw [adr_at]; rfl) hc j hj (hts _ hlink) (fun _ h => h) hfin hnmI hdecl hd hn hfit hl hdg (fun H1 locs1 hP _ hS => fin H1 locs1 hP hS)
  | false => exact va_put hx hb hts hin ty0 hty hnm hown w.1 w.2.1 (adr_D b _) w.2.2.2.1 0 (by rw [adr_at]; rfl) hc j hj (hts _ hlink) (fun _ h => h) hfin hd hn hfit hl hdg (fun H1 locs1 hP _ hS => fin H1 locs1 hP hS)
theorem cb_get (Xc : ck_X own cc nL p s m args meth c) {ci : Nat} {fs : List Value} (w : ck_W D cy b (.inr (ci, fs) :: K) s H locs) {Cn : String} {T : u_T} {N : Nat} (hc : vwCl[ci]? = some (Cn, T, N)) (hin : ∀ w ∈ u_ws Cn T N, w ∈ wsL_law) (j : Nat) (hj : j < N) {index : Nat} (hlink : Cond.fieldLink own index (T j).1 (T j).2.1 (T j).2.2.1 ∈ wsL_law) {v : Value} (hv : fs[j]? = some v) (hdg : decode cc pc = .ok (.getfield index, 3))
    (kk : W p l e R s m args below meth c H locs cells slots Z (F0 m (pc + 3) ls (v :: rest))) : W p l e R s m args below meth c H locs cells slots Z (F0 m pc ls (.ref b :: rest)) := by
  obtain ⟨hx, hb, hml, hown, hts, hr, hlk, hnmI⟩ := Xc
  exact va_get hx hb hts hin hown w.1 w.2.1 0 (by rw [adr_at]; rfl) hc j hj (hts _ hlink) (fun _ h => h) hv hdg kk
theorem cb_fin (w : ck_W D cy b (o :: K) s H locs) (hz : s.heap.size = b + 1) (hK : K.length = cells) {i : Nat} {e0 e1 : va_E} (hi : K[i]? = some e0) {g : JFrame} (kk : ∀ (H1 : Heap) (locs1 : List Loc) (K1 : List va_E), K1 = K.set i e1 → K1.length = cells → K1[i]? = some e1 → (∀ j, j ≠ i → K1[j]? = K[j]?) → ck_W D cy b (o :: K1) s H1 locs1 → W p l e R s m args below meth c H1 locs1 cells slots Z g) : ∀ (H1 : Heap) (locs1 : List Loc), va_P D vwCl ((adr b (o :: K)).set (i + 1) (b + (i + 1), e1)) H1 → va_S (fun q => b ≤ q) s.heap H1 locs1 → W p l e R s m args below meth c H1 locs1 cells slots Z g := by
  intro H1 locs1 hP hS
  have hlt : i < K.length := (List.getElem?_eq_some_iff.mp hi).1
  exact ck_sz (fun hs1 => kk H1 locs1 (K.set i e1) rfl (by rw [List.length_set]; exact hK) (by rw [List.getElem?_set, if_pos rfl, if_pos hlt]) (fun j hj => by rw [List.getElem?_set, if_neg (fun q => hj q.symm)]) (ck_chg w (k := i + 1) (e1 := e1) (Nat.succ_lt_succ hlt) (by show b + (K.length + 1) = _; rw [hz, hK]; omega) hP hS hs1))
theorem cb_iast (Xc : ck_X own cc nL p s m args meth c) (w : ck_W D cy b (o :: K) s H locs) (hz : s.heap.size = b + 1) (hK : K.length = cells) {i a n : Nat} {f : Nat → Int32} (hi : K[i]? = some (.inl (cy 0, n, .inl f))) (ha : b + (i + 1) = a) {q x : Int32} {qn : Nat} (hq : q.toNatClampNeg = qn) (hin : vp_in q n) (hdg : decode cc pc = .ok (.iastore, 1))
    (kk : ∀ (H1 : Heap) (locs1 : List Loc) (K1 : List va_E), K1 = K.set i (.inl (cy 0, n, .inl (upd f qn x))) → K1.length = cells → K1[i]? = some (.inl (cy 0, n, .inl (upd f qn x))) → (∀ j, j ≠ i → K1[j]? = K[j]?) → ck_W D cy b (o :: K1) s H1 locs1 → W p l e R s m args below meth c H1 locs1 cells slots Z (F0 m (pc + 1) ls rest)) : W p l e R s m args below meth c H locs cells slots Z (F0 m pc ls (.int x :: .int q :: .ref a :: rest)) := by
  obtain ⟨hx, hb, hml, hown, hts, hr, hlk, hnmI⟩ := Xc
  subst ha; subst hq
  exact va_iast hx hb w.1 w.2.1 (adr_D b _) w.2.2.2.1 (i + 1) 0 (by rw [adr_at]; show (K[i]?).map _ = _; rw [hi]; rfl) rfl hin hdg (fun H1 locs1 hP _ hS => cb_fin w hz hK hi kk H1 locs1 hP hS)
theorem cb_zast (Xc : ck_X own cc nL p s m args meth c) (w : ck_W D cy b (o :: K) s H locs) (hz : s.heap.size = b + 1) (hK : K.length = cells) {i a n : Nat} {f : Nat → Int32} (hi : K[i]? = some (.inl (cy 1, n, .inl f))) (ha : b + (i + 1) = a) {q x : Int32} {qn : Nat} (hq : q.toNatClampNeg = qn) (hin : vp_in q n) (hxx : vp_nar .boolean x = x) (hdg : decode cc pc = .ok (.bastore, 1))
    (kk : ∀ (H1 : Heap) (locs1 : List Loc) (K1 : List va_E), K1 = K.set i (.inl (cy 1, n, .inl (upd f qn x))) → K1.length = cells → K1[i]? = some (.inl (cy 1, n, .inl (upd f qn x))) → (∀ j, j ≠ i → K1[j]? = K[j]?) → ck_W D cy b (o :: K1) s H1 locs1 → W p l e R s m args below meth c H1 locs1 cells slots Z (F0 m (pc + 1) ls rest)) : W p l e R s m args below meth c H locs cells slots Z (F0 m pc ls (.int x :: .int q :: .ref a :: rest)) := by
  obtain ⟨hx, hb, hml, hown, hts, hr, hlk, hnmI⟩ := Xc
  subst ha; subst hq
  refine va_zast hx hb w.1 w.2.1 (adr_D b _) w.2.2.2.1 (i + 1) 1 (by rw [adr_at]; show (K[i]?).map _ = _; rw [hi]; rfl) rfl hin hdg (fun H1 locs1 hP _ hS => ?_)
  rw [hxx] at hP
  exact cb_fin w hz hK hi kk H1 locs1 hP hS
theorem cb_aast (Xc : ck_X own cc nL p s m args meth c) (w : ck_W D cy b (o :: K) s H locs) (hz : s.heap.size = b + 1) (hK : K.length = cells) {i a n k v : Nat} {f : Nat → Option Nat} {vs : List Value} (hi : K[i]? = some (.inl (cy 2, n, .inr (.inr (.inr (.inr f)))))) (ha : b + (i + 1) = a) (hk : K[k]? = some (.inr (3, vs))) (hv : b + (k + 1) = v) {q : Int32} {qn : Nat} (hq : q.toNatClampNeg = qn) (hin : vp_in q n) (hdg : decode cc pc = .ok (.aastore, 1))
    (kk : ∀ (H1 : Heap) (locs1 : List Loc) (K1 : List va_E), K1 = K.set i (.inl (cy 2, n, .inr (.inr (.inr (.inr (va_up f qn (some v))))))) → K1.length = cells → K1[i]? = some (.inl (cy 2, n, .inr (.inr (.inr (.inr (va_up f qn (some v))))))) → (∀ j, j ≠ i → K1[j]? = K[j]?) → ck_W D cy b (o :: K1) s H1 locs1 → W p l e R s m args below meth c H1 locs1 cells slots Z (F0 m (pc + 1) ls rest)) : W p l e R s m args below meth c H locs cells slots Z (F0 m pc ls (.ref v :: .int q :: .ref a :: rest)) := by
  obtain ⟨hx, hb, hml, hown, hts, hr, hlk, hnmI⟩ := Xc
  subst ha; subst hq; subst hv
  exact va_astq hx hb w.1 w.2.1 (adr_D b _) w.2.2.2.1 (i + 1) 2 (k + 1) 3 (r := (RX3, TX3, 6)) (by rw [adr_at]; show (K[i]?).map _ = _; rw [hi]; rfl) rfl (by rw [adr_at]; show (K[k]?).map _ = _; rw [hk]; rfl) rfl hin hdg (fun H1 locs1 hP _ hS => cb_fin w hz hK hi kk H1 locs1 hP hS)
theorem cb_newa (Xc : ck_X own cc nL p s m args meth c) (w : ck_W D cy b (o :: K) s H locs) (hK : K.length = cells) {n : Int32} {N' a cells1 slots1 : Nat} (hn : ¬ n < 0) (hN : n.toNatClampNeg = N') (hbytes : N' * 4 ≤ 536870912) (ha : b + (cells + 1) = a) (h1 : cells + 1 = cells1) (h2 : slots + N' = slots1) (hcells : cells1 ≤ R.cells) (hslots : slots1 ≤ R.slots) (hdg : decode cc pc = .ok (.newarray .int, 2))
    (kk : ∀ (H1 : Heap) (K1 : List va_E), K1 = K ++ [.inl (cy 0, N', .inl (fun _ => 0))] → K1.length = cells1 → ck_W D cy b (o :: K1) s H1 locs → W p l e R s m args below meth c H1 locs cells1 slots1 Z (F0 m (pc + 2) ls (.ref a :: rest))) : W p l e R s m args below meth c H locs cells slots Z (F0 m pc ls (.int n :: rest)) := by
  obtain ⟨hx, hb, hml, hown, hts, hr, hlk, hnmI⟩ := Xc
  subst ha; subst h1; subst h2
  refine ck_newa hx hb hts w (atype := .int) (t := 0) rfl (fun h => h) rfl cb_wi hn hN hbytes hcells hslots hdg (fun H1 w1 => ?_)
  have := kk H1 _ rfl (by rw [List.length_append, hK]; rfl) w1
  rw [← hK] at this ⊢
  exact this
theorem cb_newz (Xc : ck_X own cc nL p s m args meth c) (w : ck_W D cy b (o :: K) s H locs) (hK : K.length = cells) {n : Int32} {N' a cells1 slots1 : Nat} (hn : ¬ n < 0) (hN : n.toNatClampNeg = N') (hbytes : N' * componentBytes .boolean ≤ 536870912) (ha : b + (cells + 1) = a) (h1 : cells + 1 = cells1) (h2 : slots + N' = slots1) (hcells : cells1 ≤ R.cells) (hslots : slots1 ≤ R.slots) (hdg : decode cc pc = .ok (.newarray .boolean, 2))
    (kk : ∀ (H1 : Heap) (K1 : List va_E), K1 = K ++ [.inl (cy 1, N', .inl (fun _ => 0))] → K1.length = cells1 → ck_W D cy b (o :: K1) s H1 locs → W p l e R s m args below meth c H1 locs cells1 slots1 Z (F0 m (pc + 2) ls (.ref a :: rest))) : W p l e R s m args below meth c H locs cells slots Z (F0 m pc ls (.int n :: rest)) := by
  obtain ⟨hx, hb, hml, hown, hts, hr, hlk, hnmI⟩ := Xc
  subst ha; subst h1; subst h2
  refine ck_newa hx hb hts w (atype := .boolean) (t := 1) rfl (fun h => h) rfl cb_wz hn hN hbytes hcells hslots hdg (fun H1 w1 => ?_)
  have := kk H1 _ rfl (by rw [List.length_append, hK]; rfl) w1
  rw [← hK] at this ⊢
  exact this
theorem cb_newq (Xc : ck_X own cc nL p s m args meth c) (w : ck_W D cy b (o :: K) s H locs) (hK : K.length = cells) {index : Nat} (hcl : Cond.classLink own index "TouchSheet$Shape" ∈ wsL_law) {n : Int32} {N' a cells1 slots1 : Nat} (hn : ¬ n < 0) (hN : n.toNatClampNeg = N') (hbytes : N' * 4 ≤ 536870912) (ha : b + (cells + 1) = a) (h1 : cells + 1 = cells1) (h2 : slots + N' = slots1) (hcells : cells1 ≤ R.cells) (hslots : slots1 ≤ R.slots) (hdg : decode cc pc = .ok (.anewarray index, 3))
    (kk : ∀ (H1 : Heap) (K1 : List va_E), K1 = K ++ [.inl (cy 2, N', .inr (.inr (.inr (.inr (fun _ => none)))))] → K1.length = cells1 → ck_W D cy b (o :: K1) s H1 locs → W p l e R s m args below meth c H1 locs cells1 slots1 Z (F0 m (pc + 3) ls (.ref a :: rest))) : W p l e R s m args below meth c H locs cells slots Z (F0 m pc ls (.int n :: rest)) := by
  obtain ⟨hx, hb, hml, hown, hts, hr, hlk, hnmI⟩ := Xc
  subst ha; subst h1; subst h2
  refine ck_newq hx hb hts hown w hcl hn hN hbytes hcells hslots hdg (fun H1 w1 => ?_)
  have := kk H1 _ rfl (by rw [List.length_append, hK]; rfl) w1
  rw [← hK] at this ⊢
  exact this
theorem cb_mna (Xc : ck_X own cc nL p s m args meth c) (w : ck_W D cy b (o :: K) s H locs) (hK : K.length = cells) {index : Nat} (hcl : Cond.classLink own index "[[I" ∈ wsL_law) {n k : Int32} {N' K' a cells1 slots1 : Nat} (hn : ¬ n < 0) (hk : ¬ k < 0) (hN : n.toNatClampNeg = N') (hM : k.toNatClampNeg = K') (hb1 : N' * 4 ≤ 536870912) (hb2 : K' * 4 ≤ 536870912) (ha : b + (cells + 1) = a) (h1 : cells + (1 + N') = cells1) (h2 : slots + (N' + N' * K') = slots1) (hcells : cells1 ≤ R.cells) (hslots : slots1 ≤ R.slots) (hdg : decode cc pc = .ok (.multianewarray index 2, 4))
    (kk : ∀ (H1 : Heap) (K1 : List va_E), K1 = K ++ [.inl (cy 3, N', .inr (.inr (.inr (.inr (fun j => some (a + 1 + j))))))] ++ List.replicate N' (.inl (cy 0, K', .inl (fun _ => 0))) → K1.length = cells1 → ck_W D cy b (o :: K1) s H1 locs → W p l e R s m args below meth c H1 locs cells1 slots1 Z (F0 m (pc + 4) ls (.ref a :: rest))) : W p l e R s m args below meth c H locs cells slots Z (F0 m pc ls (.int k :: .int n :: rest)) := by
  obtain ⟨hx, hb, hml, hown, hts, hr, hlk, hnmI⟩ := Xc
  subst ha; subst h1; subst h2
  refine ck_mna hx hb hts hown w hcl cb_wi hn hk hN hM hb1 hb2 hcells hslots hdg (fun H1 w1 => ?_)
  have := kk H1 _ rfl (by rw [List.length_append, List.length_append, List.length_replicate, hK, List.length_singleton, Nat.add_assoc]) (by rw [← hK]; exact w1)
  rw [← hK] at this ⊢
  exact this
theorem cb_obj {d mc ms : Nat} (Xc : ck_X own cc nL p s m args meth c) {index a : Nat} (hl : Cond.methodLink own index objectInit ∈ wsL_law) (hsz : ls.size = nL) (hdg : decode cc pc = .ok (.invokespecial index, 3)) (kk : W p l e (ck_rm (d + 1) mc ms) s m args below meth c H locs cells slots Z (F0 m (pc + 3) ls [])) : W p l e (ck_rm (d + 1) mc ms) s m args below meth c H locs cells slots Z (F0 m pc ls [.ref a]) := by
  obtain ⟨hx, hb, hml, hown, hts, hr, hlk, hnmI⟩ := Xc
  exact W.objInit hx hb hown (hts _ hl) (hts _ cb_w1) (hts _ cb_w2) (g := F0 m pc ls [.ref a]) rfl (by rw [hml]; exact hsz) (rest := []) rfl hdg (Nat.succ_le_succ (Nat.zero_le _)) (by show 0 + 12 ≤ 64 * (d + 1); omega) kk
theorem cb_ret {d mc ms : Nat} (Xc : ck_X own cc nL p s m args meth c) {L LL : List va_E} (w : ck_W D cy b L s H locs) (hL : L = LL) (hc : cells = mc) (hs : slots = ms) (hdg : decode cc pc = .ok (.return_, 1)) : W p l e (ck_rm d mc ms) s m args below meth c H locs cells slots (MQ below (ck_Qc D b LL) args s mc ms (fun q => b ≤ q)) (F0 m pc ls []) := by
  obtain ⟨hx, hb, hml, hown, hts, hr, hlk, hnmI⟩ := Xc
  subst hL; subst hc; subst hs
  exact W.vret hx hb hr (fun t ht hW => ⟨⟨rfl, by rw [ht]; exact w.2.1, by rw [ht]; exact w.2.2.1⟩, w.2.2.2.1.F ht⟩) w.2.2.2.1.2.2 hdg hlk
/-- behind a constructor's call -/
theorem cb_after {b1 mc ms : Nat} {L : List va_E} {e0 : va_E} {LL : List va_E} {a : Array Value} {st0 : List Value} (w : ck_W D cy b (L ++ [e0]) s H locs) (hb1 : b + L.length = b1) (hr : va_Run p l e R s m args below meth c H locs cells slots mc ms (F0 m pc ls st0) rest (ck_Qc D b1 LL a) (fun q => b1 ≤ q))
    (kk : ∀ (H1 : Heap) (locs1 : List Loc), ck_W D cy b (L ++ LL) s H1 locs1 → W p l e R s m args below meth c H1 locs1 (cells + mc) (slots + ms) Z (F0 m (pc + 3) ls rest)) : W p l e R s m args below meth c H locs cells slots Z (F0 m pc ls st0) := by
  intro T hT X
  obtain ⟨v, st₀, t, T', L1, h0, X', hL, e1, e2, ⟨⟨hv, hP1, hz1⟩, hz, hk⟩, st⟩ := hr T hT X
  cases hv
  rw [h0] at hz hk
  subst hb1
  obtain ⟨hK, hP, hsz, hS, hb, hok⟩ := w
  have hsz' : H.size = b + L.length + 1 := by rw [hsz, List.length_append, List.length_singleton, Nat.add_assoc]
  have hold : ∀ q, q < b + L.length → T'.heap[q]? = H[q]? := fun q hq => by rw [e1]; exact hk q (by omega) (by omega)
  obtain ⟨t2, a1, b1'⟩ := kk T'.heap (locs ++ L1) ⟨hK, by
      rw [adr_app]
      rw [adr_app] at hP
      refine va_P.app (fun k x hx => ?_) (by rw [e1]; exact hP1)
      have hxk : (adr b L ++ adr (b + L.length) [e0])[k]? = some x := by
        rw [List.getElem?_append_left (List.getElem?_eq_some_iff.mp hx).1]; exact hx
      exact (hP k x hxk).kept (hold x.1 (by have := adr_in hx; omega)), by rw [e1, hz1, List.length_append, Nat.add_assoc], ⟨Nat.le_trans hS.1 (by rw [e1]; exact hz), fun q h1 h2 => by rw [hold q (by omega)]; exact hS.2.1 q h1 h2, fun q hq => by
      rcases List.mem_append.mp hq with h | h
      · exact hS.2.2 q h
      · exact Nat.le_trans (Nat.le_add_right _ _) (hL q h)⟩, hb, hok⟩ T' rfl X'
  exact ⟨t2, st t2 a1, b1'⟩
end CKB
