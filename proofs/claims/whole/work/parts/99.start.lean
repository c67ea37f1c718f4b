theorem tb_nl : ∀ w ∈ tk_nl, w ∈ lw_tbl := tb_of [80, 94, 107, 121, 183, 188, 206, 211, 342, 456, 492, 514, 535, 573] (by decide +kernel)
set_option maxHeartbeats 8000000 in
set_option maxRecDepth 100000 in
theorem whole_start {p : Program} {e : Env} {s : State} {m : MethodId} {below : List Frame} {meth : Method} {c : Code} (l : Launch) {b L : Nat} {xs : Nat → Int32} (hL : L ≤ 3072) (C0 : lw_At p s m meth c b L xs) : W p l e room_1 s m #[Value.ref b] below meth c s.heap [] 0 0 (lw_Z below #[Value.ref b] s) (entryFrame m ([Value.ref b] : List Value).toArray 4) := by
  obtain ⟨hx, hb, hr, hml, hown, hts, hX, hbl, hlocks, hgv⟩ := id C0
  have htw : ∀ w ∈ wsL_law, w.before #[Value.ref b] s = true := fun w hw => hts w (tb_all w hw)
  have hXX : lk_X p s m #[Value.ref b] c b L xs := ⟨hx, hb, hml, hown, htw, hX, hbl, hL⟩
  obtain ⟨c0, i0, k0⟩ := u_known (C := RX0) (T := TX0) (N := 4) (n := 4) htw inlX0 (htw _ (inr_2 (List.mem_of_getElem? (i := 20) rfl)))
  obtain ⟨c1, i1, k1⟩ := u_known (C := RX1) (T := TX1) (N := 2) (n := 2) htw inlX1 (htw _ (inr_2 (List.mem_of_getElem? (i := 6) rfl)))
  obtain ⟨c2, i2, k2⟩ := u_known (C := RX2) (T := TX2) (N := 1) (n := 1) htw inlX2 (htw _ (inr_1 (List.mem_of_getElem? (i := 22) rfl)))
  obtain ⟨c3, i3, k3⟩ := u_known (C := RX3) (T := TX3) (N := 6) (n := 6) htw inlX3 (htw _ (inr_2 (List.mem_of_getElem? (i := 23) rfl)))
  obtain ⟨c4, i4, k4⟩ := u_known (C := RX4) (T := TX4) (N := 2) (n := 2) htw inlX4 (htw _ (inr_2 (List.mem_of_getElem? (i := 2) rfl)))
  obtain ⟨c5, i5, k5⟩ := u_known (C := RX5) (T := TX5) (N := 5) (n := 5) htw inlX5 (htw _ (inr_2 (List.mem_of_getElem? (i := 10) rfl)))
  obtain ⟨c6, i6, k6⟩ := u_known (C := RX6) (T := TX6) (N := 9) (n := 9) htw inlX6 (htw _ (inr_2 (List.mem_of_getElem? (i := 14) rfl)))
  obtain ⟨c7, i7, k7⟩ := u_known (C := RX7) (T := TX7) (N := 19) (n := 19) htw inlX7 (htw _ (inr_1 (List.mem_of_getElem? (i := 1) rfl)))
  obtain ⟨c8, i8, k8⟩ := u_known (C := RX8) (T := TX8) (N := 26) (n := 26) htw inlX8 (htw _ (inr_1 (List.mem_of_getElem? (i := 4) rfl)))
  obtain ⟨D, hD⟩ : ∃ D : va_G, ∀ (k : Nat) (q : vw_C), vwCl[k]? = some q → u_Kn s q.1 q.2.1 q.2.2 (D.1 k) (D.2 k) := by
    refine ⟨(fun k => if k = 0 then c0 else if k = 1 then c1 else if k = 2 then c2 else if k = 3 then c3 else if k = 4 then c4 else if k = 5 then c5 else if k = 6 then c6 else if k = 7 then c7 else c8, fun k => if k = 0 then i0 else if k = 1 then i1 else if k = 2 then i2 else if k = 3 then i3 else if k = 4 then i4 else if k = 5 then i5 else if k = 6 then i6 else if k = 7 then i7 else i8), ?_⟩
    intro k q hq
    match k, hq with
    | 0, hq => cases hq; exact k0
    | 1, hq => cases hq; exact k1
    | 2, hq => cases hq; exact k2
    | 3, hq => cases hq; exact k3
    | 4, hq => cases hq; exact k4
    | 5, hq => cases hq; exact k5
    | 6, hq => cases hq; exact k6
    | 7, hq => cases hq; exact k7
    | 8, hq => cases hq; exact k8
    | k + 9, hq => simp [vwCl] at hq
  have hao : (Cond.arrayOver (.object "TouchSheet$Shape")).before #[Value.ref b] s = true := hts _ (List.mem_of_getElem? (i := 75) (by decide +kernel))
  have haa : (Cond.arrayOver (.array .int)).before #[Value.ref b] s = true := hts _ (List.mem_of_getElem? (i := 77) (by decide +kernel))
  obtain ⟨y0, q0, m0, a01, a02, a03⟩ := Cond.arrayClass_spec (htw _ cb_wi)
  obtain ⟨y1, q1, m1, a11, a12, a13⟩ := Cond.arrayClass_spec (htw _ cb_wz)
  obtain ⟨m2, y2, q2, a21, a22, a23, a24, a25⟩ := Cond.arrayOver_spec hao
  obtain ⟨m3, y3, q3, a31, a32, a33, a34⟩ := Cond.arrayOver_specA haa
  obtain ⟨cy, hcy⟩ : ∃ cy : Nat → ClassId, ∀ (k : Nat) (q : ClassId × FieldType), (tk_ty cy)[k]? = some q → ArrOfT s q.1 q.2 ∧ va_RA s q.1 q.2 := by
    refine ⟨fun k => if k = 0 then y0 else if k = 1 then y1 else if k = 2 then y2 else y3, ?_⟩
    intro k q hq
    match k, hq with
    | 0, hq => cases hq; exact ⟨fun n z => ⟨fun _ h => (by cases h), q0, a02, m0, a03⟩, a01⟩
    | 1, hq => cases hq; exact ⟨fun n z => ⟨fun _ h => (by cases h), q1, a12, m1, a13⟩, a11⟩
    | 2, hq => cases hq; exact ⟨fun n z => ⟨fun _ h => (by cases h), q2, a23, m2, a24⟩, q2, m2, a23, a24, a21, a25⟩
    | 3, hq => cases hq; exact ⟨fun n z => ⟨fun _ h => (by cases h), q3, a32, m3, a33⟩, a34⟩
    | k + 4, hq => simp [tk_ty] at hq
  have hok : ck_ok s := ⟨fun w hw => va_Nw.of (tk_nl_on w hw) (hts w (tb_nl w hw)), va_AO.of hao, haa⟩
  have w0 : ck_W D cy s.heap.size [] s s.heap [] := ⟨⟨hD, hcy⟩, fun k q h => by simp [adr] at h, rfl, va_S.rf, Nat.le_refl _, hok⟩
  have hl := lv_entry ([.ref b]) (n := 4) (Nat.le_of_ble_eq_true rfl)
  rw [lg_entry_eq]
  generalize (lg_sl ([.ref b]) ++ List.replicate (4 - (lg_sl ([.ref b])).length) Slot.unset).toArray = ls at hl ⊢
  have hl : lv_has ls 4 [(0, .ref b)] := hl
  refine ck_new (ci := 7) hx hb htw hown w0 inlX7 tyX7 tyX7_ok (inr_1 (List.mem_of_getElem? (i := 0) rfl)) (inr_1 (List.mem_of_getElem? (i := 1) rfl)) (inr_1 (List.mem_of_getElem? (i := 2) rfl)) rfl df_X7 (Nat.le_of_ble_eq_true rfl) (Nat.le_of_ble_eq_true rfl) dL_law_0 (fun H w1 => ?_)
  refine W.eq (g2 := F0 m 3 ls [.ref s.heap.size]) (by rw [show s.heap.size + (([] : List va_E)).length = s.heap.size from rfl]) ?_
  refine lv_dup hx hb dL_law_3 rfl ?_
  refine cb_after (b1 := s.heap.size) w1 rfl (cb_runP hx hb hml hown htw w1 (LL := LL7) (a := s.heap.size) rfl C_X7 (inr_1 (List.mem_of_getElem? (i := 8) rfl)) (inr_1 (List.mem_of_getElem? (i := 2) rfl)) (inr_1 (List.mem_of_getElem? (i := 7) rfl)) (inr_1 (List.mem_of_getElem? (i := 6) rfl)) rfl hd_X7_init ⟨Nat.le_of_ble_eq_true rfl, Nat.le_of_ble_eq_true rfl⟩ hl.1 (Nat.le_of_ble_eq_true rfl) dL_law_4 ⟨Nat.le_of_ble_eq_true rfl, Nat.le_of_ble_eq_true rfl⟩) (fun H locs w => ?_)
  have w : ck_W D cy s.heap.size (LL7 cy s.heap.size) s H locs := w
  refine lv_astore_n (lv' := [(1, .ref s.heap.size), (0, .ref b)]) hx hb dL_law_7 rfl hl (by decide) rfl (fun ls hl => ?_)
  have h7 : s.heap.size + (LL7 cy s.heap.size).length = s.heap.size + 132 := by rw [LL7_len]
  refine ck_new (ci := 8) hx hb htw hown w inlX8 tyX8 tyX8_ok (inr_1 (List.mem_of_getElem? (i := 3) rfl)) (inr_1 (List.mem_of_getElem? (i := 4) rfl)) (inr_1 (List.mem_of_getElem? (i := 5) rfl)) rfl df_X8 (Nat.le_of_ble_eq_true rfl) (Nat.le_of_ble_eq_true rfl) dL_law_8 (fun H w1 => ?_)
  refine W.eq (g2 := F0 m 11 ls [.ref (s.heap.size + 132)]) (by rw [show s.heap.size + (LL7 cy s.heap.size).length = (s.heap.size + 132) from h7]) ?_
  refine lv_dup hx hb dL_law_11 rfl ?_
  refine cb_after (b1 := (s.heap.size + 132)) w1 h7 (cb_runP hx hb hml hown htw w1 (LL := LL8) (a := (s.heap.size + 132)) h7 C_X8 (inr_5 (List.mem_of_getElem? (i := 2) rfl)) (inr_1 (List.mem_of_getElem? (i := 5) rfl)) (inr_5 (List.mem_of_getElem? (i := 1) rfl)) (inr_5 (List.mem_of_getElem? (i := 0) rfl)) rfl hd_X8_init ⟨Nat.le_of_ble_eq_true rfl, Nat.le_of_ble_eq_true rfl⟩ hl.1 (Nat.le_of_ble_eq_true rfl) dL_law_12 ⟨Nat.le_of_ble_eq_true rfl, Nat.le_of_ble_eq_true rfl⟩) (fun H locs w => ?_)
  refine lv_astore_n (lv' := [(2, .ref (s.heap.size + 132)), (1, .ref s.heap.size), (0, .ref b)]) hx hb dL_law_15 rfl hl (by decide) rfl (fun ls hl => ?_)
  refine lv_iconst (v := 0) hx hb dL_law_16 (by decide) ?_
  refine lv_istore_n (lv' := [(3, .int 0), (2, .ref (s.heap.size + 132)), (1, .ref s.heap.size), (0, .ref b)]) hx hb dL_law_17 rfl hl (by decide) rfl (fun ls hl => ?_)
  have w' : tk_W D cy (fun k => s.heap.size + k) s.heap.size s0 s H locs := by
    obtain ⟨h1, h2, h3, h4, h5, h6⟩ := w
    refine ⟨h1, ?_, ?_, h4, h5, h6.1⟩
    · rw [tkw_adr, rg153]
      exact adr_ceq _ (fa0 cy _) h2
    · rw [tkw_adr]
      exact adr_D _ _
  refine W.widen (k := 153) (n := 10500) (Nat.le_of_ble_eq_true rfl) (Nat.le_of_ble_eq_true rfl) ?_
  refine lk_loop hXX (ad := fun k => s.heap.size + k) (fun i hi => ?_) (L + 1) 0 (Nat.zero_le _) (by omega) s0 H locs ls rel0 w' (by rw [nI_0]; exact hl)
  intro σ H locs ls hR w hl
  refine lv_iconst (v := 1) hx hb dL_law_911 (by decide) ?_
  refine va_forget (fun q hq => w.2.2.2.1.2.2 q hq) ?_
  refine W.widen (k := 600000) (n := 7302250) (Nat.le_of_ble_eq_true rfl) (Nat.le_of_ble_eq_true rfl) ?_
  exact lw_ret hx hb hr hlocks dL_law_912
set_option maxHeartbeats 4000000 in
theorem lw_walk (l : Launch) (b : Addr) (xs : List Int32) : MetFree l x (headSpec (Jvm.Cond.code x code maxLocals ret :: tables_1) room_1) (lw_P b xs) (fun _ _ _ _ _ => True) lw_Q := by
  refine MetFree.of_bodyS (code := code) (maxLocals := maxLocals) (ret := ret) (by decide) ?_ ?_
  · intro args s m h hn
    obtain ⟨meth, c, h1, h2, h3, h4, h5, h6, -, -⟩ := Cond.code_spec hn (atoms_spec (ws := Jvm.Cond.code x code maxLocals ret :: tables_1) h _ List.mem_cons_self)
    exact ⟨meth, c, h1, h2, h3, h4, h5, h6⟩
  · intro p e s m args below meth c s₁ B hml0 hP _
    obtain ⟨rfl, hx, hbd, hgv⟩ := hP
    obtain ⟨scr, harrAt, hlist, hof, hsmall⟩ := hx
    obtain ⟨hcb, hkn, -, -⟩ := State.arrayAt?_spec harrAt
    have hown : s.vm.findClass R_law = some m.cls := findClass_of_methodNamed B.named
    have hts0 : ∀ c ∈ (Jvm.Cond.code x code maxLocals ret :: tables_1), c.before #[Value.ref b] s = true := atoms_spec (ws := Jvm.Cond.code x code maxLocals ret :: tables_1) B.pre
    have hts : ∀ w ∈ lw_tbl, w.before #[Value.ref b] s = true := k2_hts_sels lw_privs (fun w hw => hts0 w (List.mem_cons_of_mem _ hw)) lw_privs_ok
    have hml : c.maxLocals = 4 := B.maxLocals_eq (hts0 _ List.mem_cons_self)
    have X₀ : Stand p l e room_1 s m #[Value.ref b] below meth c s₁ [] 0 0 := Stand.of_body B
    have hh0 : s₁.heap = s.heap := by rw [B.state]; rfl
    have hsz : scr.slots.size = xs.length := by rw [← Array.length_toList, hlist, List.length_map]
    have hval : ∀ j : Nat, j < xs.length → scr.slots[j]? = some (.int (xs.getD j 0)) := fun j hj => by
      rw [← Array.getElem?_toList, hlist]
      simp [hj]
    have hbl : b < s.heap.size := (Array.getElem?_eq_some_iff.mp hcb).1
    have hX : va_X b xs.length (fun j => xs.getD j 0) s s.heap := ⟨scr, hcb, hof, hkn, hsz, hval⟩
    have K : W p l e room_1 s m #[Value.ref b] below meth c s₁.heap [] 0 0 (lw_Z below #[Value.ref b] s) (entryFrame m ([Value.ref b] : List Value).toArray 4) := by
      rw [hh0]
      exact whole_start l hbd ⟨B.exec, B.bytes, B.returns, hml, hown, hts, hX, hbl, B.notSynchronized, hgv⟩
    obtain ⟨t, a1, o, b1, b2, b3⟩ := K s₁ rfl X₀
    exact ⟨t, o, a1, b1, b2, b3⟩
theorem lw_pre_spec {args : Array Value} {s : State} (h : (Jvm.Cond.and given_1 narrow_1).before args s = true) (hr : rest_1_c.before args s = true) : ∃ (b : Addr) (xs : List Int32), lw_P b xs args s := by
  have hs := flat_of_before _ h
  have hq := flat_of_before _ hr
  have hc : (Cond.count 1).before args s = true := hs _ (by decide +kernel)
  have harr : (Cond.arrayOf (.arg 0) .int).before args s = true := hs _ (by decide +kernel)
  have hle : (Cond.le (.length (.arg 0)) (.int 3072)).before args s = true := hs _ (by decide +kernel)
  have hlen : (Cond.isInt (.length (.arg 0))).before args s = true := hq _ (by decide +kernel)
  have hall : (Cond.all (.arg 0) (.isInt (.elem (.arg 0) (.index 0)))).before args s = true := hq _ (by decide +kernel)
  obtain ⟨b, xs, hb, hx⟩ := State.ints_of_pre rfl harr hlen hall
  have hsm : xs.length < 2 ^ 31 := hx.choose_spec.2.2.2
  have hev : (Term.length (.arg 0)).eval args s none [] s = some (.int xs.length.toInt32) := hx.length_eval hb
  have hv := Cond.le_ints hev (show (Term.int 3072).eval args s none [] s = some (.int 3072) from rfl)
  have hd : xs.length.toInt32 ≤ 3072 := by
    simpa [Cond.before, Cond.holds, hv] using hle
  have hN : xs.length ≤ 3072 := (Int32.ofNat_le_ofNat hsm (by decide)).mp (show Int32.ofNat xs.length ≤ Int32.ofNat 3072 from hd)
  exact ⟨b, xs, Cond.one_arg hc (show args[0]? = some (.ref b) from hb), hx, hN, h⟩
theorem lw_comes (l : Launch) : Comes l x (Jvm.Cond.code x code maxLocals ret :: tables_1) room_1 (fun tb e args s => Calls_1 tb e args s ∧ rest_1 tb e args s ∧ Pre_1 tb e args s)
    (fun _ _ args s o t => lw_Q args s o t) := by
  intro p e ha hc hk s m args below hf hfit hheap happ hpre
  obtain ⟨b, xs, hP⟩ := lw_pre_spec hpre.2.2 hpre.2.1
  obtain ⟨k, o, h1, h2, h3, hQ⟩ := lw_walk l b xs p e ha hc hk s m args below hf ((Spec.applies_iff_loose hf).mp happ).1 hP trivial
  exact ⟨k, o, h1, h2, h3, hQ⟩
theorem lw_frame {s t : State} {o : Outcome} {args : Array Value} (h : Framed s o t [] 600000 7302250) :
    Framed s o t (fieldLocs frame_1_writes args s ++ arrayLocs frame_1_arrays args s ++ staticLocs frame_1_statics s) 600000 7302250 := h
theorem lw_limb (L : Cond) (hL : ∀ (args : Array Value) (s t : State), L.after args s (.returned (some (.int 1))) t = true) :
    ArmFor flags0 classFile x code maxLocals ret World_1 tables_1 room_1 Calls_1 rest_1 Pre_1
      (fun tb e a s o t => postC L tb e a s o t ∧ Framed s o t (fieldLocs frame_1_writes a s ++ arrayLocs frame_1_arrays a s ++ staticLocs frame_1_statics s) 600000 7302250) := by
  intro l _ _ _ p e ha hc hk s m args below hf hfit hheap happ hpre
  obtain ⟨k, o, h1, h2, h3, rfl, hF⟩ := lw_comes l p e ha hc hk s m args below hf hfit hheap happ hpre
  exact ⟨k, _, h1, h2, h3, hL args s _, lw_frame hF⟩
theorem i_vc : Claimed_1_1 ∧ Claimed_1_2 := ⟨lw_limb limb_1_1 (fun args s t => by simp [limb_1_1, Cond.after, Cond.holds, Cond.value]), lw_limb limb_1_2 (fun args s t => Cond.after_iff.mpr (by
  first | (rw [show limb_1_2 = Cond.eq .result (.int 1) from rfl, Cond.eq_ints (x := 1) (y := 1) rfl rfl]; simp; done) | (simp [limb_1_2, Cond.value, Term.eval]; done)))⟩

