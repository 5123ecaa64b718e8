theorem kl_L_10 : Cond.classLink RL 10 RX8 ∈ wsG := wsG_mem (zt1 (List.mem_of_getElem? (i := 11) (by decide +kernel))) rfl
theorem kc_8 : Cond.instantiable RX8 6 ∈ wsG ∧ Cond.initialized RX8 ∈ wsG := ⟨wsG_mem (zt1 (List.mem_of_getElem? (i := 12) (by decide +kernel))) rfl, wsG_mem (zt1 (List.mem_of_getElem? (i := 1) (by decide +kernel))) rfl⟩
theorem ml_L_71 : Cond.methodLink RL 71 yX8_init ∈ wsG := wsG_mem (zt1 (List.mem_of_getElem? (i := 13) (by decide +kernel))) rfl
theorem mc_8 : zMC yX8_init cX8_init 1 0 := ⟨wsG_mem (zt1 (List.mem_of_getElem? (i := 15) (by decide +kernel))) rfl, wsG_mem (zt1 (List.mem_of_getElem? (i := 1) (by decide +kernel))) rfl, ⟨by decide +kernel, by decide +kernel, by decide +kernel⟩, wsG_mem (zt1 (List.mem_of_getElem? (i := 14) (by decide +kernel))) rfl, rfl⟩
theorem zN_on {w : Cond} (h : w ∈ wsN) : w.onTables = true := by
  have h1 := (List.mem_filter.mp h).2
  cases w <;> first | exact Bool.noConfusion (show false = true from h1) | rfl
set_option maxHeartbeats 4000000 in
set_option maxRecDepth 100000 in
theorem whole_start {p : Program} {e : Env} {s : State} {m : MethodId} {below : List Frame} {meth : Method} {c : Code} (l : Launch) (hflags : l.flags = flags0) {b L : Nat} {xs : Nat → Int32} (hL : L ≤ 260) (C0 : lw_At p s m meth c b L xs) : W p l e room_1 s m #[Value.ref b] below meth c s.heap [] 0 0 (lw_Z below #[Value.ref b] s) (entryFrame m ([Value.ref b] : List Value).toArray 4) := by
  obtain ⟨hx, hb, hr, hml, hown, hts0, hX, hbl, hlocks, hgv⟩ := C0
  have hts : ∀ w ∈ wsG, w.before #[Value.ref b] s = true := fun w h => hts0 w (wsG_tbl w h)
  have hN : zN s := fun w h => va_Nw.of (zN_on h) (hts0 w (List.mem_filter.mp h).1)
  obtain ⟨c0, i0, k0⟩ := u_known (C := RX0) (T := TX0) (N := 1) (n := 1) hts zc0.2.1 (hts _ kc_0.1)
  obtain ⟨c1, i1, k1⟩ := u_known (C := RX1) (T := TX1) (N := 4) (n := 4) hts zc1.2.1 (hts _ kc_1.1)
  obtain ⟨c2, i2, k2⟩ := u_known (C := RX2) (T := TX2) (N := 3) (n := 3) hts zc2.2.1 (hts _ kc_2.1)
  obtain ⟨c3, i3, k3⟩ := u_known (C := RX3) (T := TX3) (N := 2) (n := 2) hts zc3.2.1 (hts _ kc_3.1)
  obtain ⟨c4, i4, k4⟩ := u_known (C := RX4) (T := TX4) (N := 2) (n := 2) hts zc4.2.1 (hts _ kc_4.1)
  obtain ⟨c5, i5, k5⟩ := u_known (C := RX5) (T := TX5) (N := 4) (n := 4) hts zc5.2.1 (hts _ kc_5.1)
  obtain ⟨c6, i6, k6⟩ := u_known (C := RX6) (T := TX6) (N := 1) (n := 1) hts zc6.2.1 (hts _ kc_6.1)
  obtain ⟨c7, i7, k7⟩ := u_known (C := RX7) (T := TX7) (N := 6) (n := 6) hts zc7.2.1 (hts _ kc_7.1)
  obtain ⟨c8, i8, k8⟩ := u_known (C := RX8) (T := TX8) (N := 6) (n := 6) hts zc8.2.1 (hts _ kc_8.1)
  obtain ⟨dC, dI, hK0⟩ : ∃ (dC : Nat → ClassId) (dI : Nat → Nat → Nat), ∀ (k : Nat) (q : vw_C), vwCl[k]? = some q → u_Kn s q.1 q.2.1 q.2.2 (dC k) (dI k) := by
    refine ⟨fun k => if k = 0 then c0 else if k = 1 then c1 else if k = 2 then c2 else if k = 3 then c3 else if k = 4 then c4 else if k = 5 then c5 else if k = 6 then c6 else if k = 7 then c7 else c8, fun k => if k = 0 then i0 else if k = 1 then i1 else if k = 2 then i2 else if k = 3 then i3 else if k = 4 then i4 else if k = 5 then i5 else if k = 6 then i6 else if k = 7 then i7 else i8, ?_⟩
    intro k q hq
    match k, hq with
    | 0, hq => cases hq; exact k0
    | 1, hq => cases hq; exact k1
    | 2, hq => cases hq; exact k2
    | 3, hq => cases hq; exact k3
    | 4, hq => cases hq; exact k4
    | 5, hq => cases hq; exact k5
    | 6, hq => cases hq; exact k6
    | 7, hq => cases hq; exact k7
    | 8, hq => cases hq; exact k8
    | k + 9, hq => exact nomatch (show (none : Option vw_C) = some q from hq)
  obtain ⟨cA, kA, comp, f1, f2, f3⟩ := Cond.arrayClass_spec (hts _ mk_int)
  have hAr : ArrOfT s cA .int := fun n z => ⟨fun k h => (by cases h), kA, f2, comp, f3⟩
  have hK : va_K (dC, dI) vwCl [(cA, .int)] s := ⟨hK0, fun k q h => by
    match k, h with
    | 0, h => cases h; exact ⟨hAr, f1⟩
    | k + 1, h => exact nomatch (show (none : Option (ClassId × FieldType)) = some q from h)⟩
  have X : zX (dC, dI) cA p s m #[Value.ref b] meth c code 4 RL ret := ⟨⟨hx, hb, hml, hown, hts⟩, hK, hN, hlocks, hr⟩
  have hw : zH (dC, dI) (fun q => s.heap.size ≤ q) s [] s.heap [] := ⟨fun k q h => by simp at h, ⟨fun i j a b h => by simp at h, fun k q h => by simp at h⟩, va_S.rf, fun _ h => h⟩
  rw [lg_entry_eq]
  have hl := lv_entry [Value.ref b] (n := 4) (Nat.le_of_ble_eq_true rfl)
  generalize (lg_sl ([.ref b]) ++ List.replicate (4 - (lg_sl ([.ref b])).length) Slot.unset).toArray = ls at hl ⊢
  have hl : lv_has ls 4 [(0, .ref b)] := hl
  refine z_new 0 zc8 kl_L_10 kc_8 [.null, .null, .null, .null, .null, .null] X dL_law_0 hw (fun j hj => by rcases (show j = 0 ∨ j = 1 ∨ j = 2 ∨ j = 3 ∨ j = 4 ∨ j = 5 by omega) with rfl | rfl | rfl | rfl | rfl | rfl <;> rfl) ⟨Nat.le_of_ble_eq_true rfl, Nat.le_of_ble_eq_true rfl⟩ (fun q1 H hw => ?_)
  have hw : zH (dC, dI) (fun q => s.heap.size ≤ q) s [(q1, .inr (8, [.null, .null, .null, .null, .null, .null]))] H [] := hw
  refine z_dup 3 X dL_law_3 rfl ?_
  refine z_callI 4 mc_8 ml_L_71 [0] [] [.ref q1] [] (n_X8_init l (dC, dI) cA q1) X dL_law_4 hw hl rfl rfl (by decide +kernel) (by decide +kernel) (by decide +kernel) rfl rfl (Nat.le_of_ble_eq_true rfl) ⟨Nat.le_of_ble_eq_true rfl, Nat.le_of_ble_eq_true rfl⟩ ⟨Nat.le_of_ble_eq_true rfl, Nat.le_of_ble_eq_true rfl⟩ (fun as1 H locs hw => ?_)
  have hw : zH (dC, dI) (fun q => s.heap.size ≤ q) s [(q1, .inr (8, [.ref (as1 0), .ref (as1 3), .ref (as1 14), .ref (as1 17), .ref (as1 20), .ref (as1 24)])), ((as1 0), .inr (5, [.ref (as1 1), .int 0, .int 4, .int 8])), ((as1 1), .inr (0, [.ref (as1 2)])), ((as1 2), .inl (cA, 64, .inl (fun _ => 0))), ((as1 3), .inr (1, [.ref (as1 4), .ref (as1 7), .ref (as1 10), .ref (as1 12)])), ((as1 4), .inr (4, [.ref (as1 5), .int 0])), ((as1 5), .inr (0, [.ref (as1 6)])), ((as1 6), .inl (cA, 1040, .inl (fun _ => 0))), ((as1 7), .inr (7, [.ref (as1 8), .int 0, .int 0, .int 0, .int 0, .int (-1)])), ((as1 8), .inr (0, [.ref (as1 9)])), ((as1 9), .inl (cA, 1344, .inl (fun _ => 0))), ((as1 10), .inr (0, [.ref (as1 11)])), ((as1 11), .inl (cA, 64, .inl (fun _ => 0))), ((as1 12), .inr (0, [.ref (as1 13)])), ((as1 13), .inl (cA, 64, .inl (fun _ => 0))), ((as1 14), .inr (4, [.ref (as1 15), .int 0])), ((as1 15), .inr (0, [.ref (as1 16)])), ((as1 16), .inl (cA, 1040, .inl (fun _ => 0))), ((as1 17), .inr (3, [.ref (as1 18), .int 0])), ((as1 18), .inr (0, [.ref (as1 19)])), ((as1 19), .inl (cA, 80, .inl (fun _ => 0))), ((as1 20), .inr (2, [.ref (as1 21), .int 0, .int 0])), ((as1 21), .inr (6, [.ref (as1 22)])), ((as1 22), .inr (0, [.ref (as1 23)])), ((as1 23), .inl (cA, 476, .inl (fun _ => 0))), ((as1 24), .inr (6, [.ref (as1 25)])), ((as1 25), .inr (0, [.ref (as1 26)])), ((as1 26), .inl (cA, 136, .inl (fun _ => 0)))] H locs := hw
  refine lv_astore_n (lv' := [(1, .ref q1), (0, .ref b)]) hx hb dL_law_7 rfl hl (by decide) rfl (fun ls hl => ?_)
  refine z_iconst 8 1 X dL_law_8 (by decide) ?_
  refine z_istore_n 9 [(2, .int 1), (1, .ref q1), (0, .ref b)] X dL_law_9 hl (by decide) rfl (fun ls hl => ?_)
  refine z_iconst 10 0 X dL_law_10 (by decide) ?_
  refine z_istore_n 11 [(3, .int 0), (2, .int 1), (1, .ref q1), (0, .ref b)] X dL_law_11 hl (by decide) rfl (fun ls hl => ?_)
  have hw2 : zH (dC, dI) (fun q => s.heap.size ≤ q) s (zw_27 cA 0 q1 (as1 0) (as1 3) (as1 14) (as1 17) (as1 20) (as1 24) (as1 4) (as1 7) (as1 10) (as1 12) (as1 11) (as1 5) (as1 6) (as1 13) (as1 8) (as1 9) (as1 21) (as1 22) (as1 23) (as1 18) (as1 1) (as1 2) (as1 15) (as1 16) (fun _ => 0) 0 (fun _ => 0) (fun _ => 0) 0 0 0 0 (-1) (fun _ => 0) 0 0 (fun _ => 0) 0 0 4 8 (fun _ => 0) 0 (fun _ => 0)) H locs := ⟨hw.1.sub [0, 4, 11, 12, 5, 6, 7, 13, 14, 8, 9, 10, 21, 22, 23, 24, 18, 1, 2, 3, 15, 16, 17] rfl, hw.2.1.sub [0, 4, 11, 12, 5, 6, 7, 13, 14, 8, 9, 10, 21, 22, 23, 24, 18, 1, 2, 3, 15, 16, 17] (by decide +kernel) rfl, hw.2.2⟩
  exact l_L_law_12 l (dC, dI) cA b q1 (as1 0) (as1 3) (as1 14) (as1 17) (as1 20) (as1 24) (as1 4) (as1 7) (as1 10) (as1 12) (as1 11) (as1 5) (as1 6) (as1 13) (as1 8) (as1 9) (as1 21) (as1 22) (as1 23) (as1 18) (as1 1) (as1 2) (as1 15) (as1 16) 0 L xs X ⟨hX, hbl, Nat.not_le.mpr hbl⟩ zFuel (fun _ => 0) 0 (fun _ => 0) (fun _ => 0) 0 0 0 0 (-1) (fun _ => 0) 0 0 (fun _ => 0) 0 4 8 (fun _ => 0) 0 (fun _ => 0) 1 0 H locs ls hw2 (lv_sub hl [3, 2, 1, 0] rfl) (S_law hL)
set_option maxHeartbeats 4000000 in
theorem lw_walk (l : Launch) (hflags : l.flags = flags0) (b : Addr) (xs : List Int32) : MetFree l x (headSpec (Jvm.Cond.code x code maxLocals ret :: tables_1) room_1) (lw_P b xs) (fun _ _ _ _ _ => True) lw_Q := by
  refine MetFree.of_bodyS (code := code) (maxLocals := maxLocals) (ret := ret) (by decide) ?_ ?_
  · intro args s m h hn
    obtain ⟨meth, c, h1, h2, h3, h4, h5, h6, -, -⟩ := Cond.code_spec hn (atoms_spec (ws := Jvm.Cond.code x code maxLocals ret :: tables_1) h _ List.mem_cons_self)
    exact ⟨meth, c, h1, h2, h3, h4, h5, h6⟩
  · intro p e s m args below meth c s₁ B hml0 hP _
    obtain ⟨rfl, hx, hbd, hgv⟩ := hP
    obtain ⟨scr, harrAt, hlist, hof, hsmall⟩ := hx
    obtain ⟨hcb, hkn, -, -⟩ := State.arrayAt?_spec harrAt
    have hown : s.vm.findClass R_law = some m.cls := findClass_of_methodNamed B.named
    have hts0 : ∀ c ∈ (Jvm.Cond.code x code maxLocals ret :: tables_1), c.before #[Value.ref b] s = true := atoms_spec (ws := Jvm.Cond.code x code maxLocals ret :: tables_1) B.pre
    have hts : ∀ w ∈ lw_tbl, w.before #[Value.ref b] s = true := k2_hts_sels lw_privs (fun w hw => hts0 w (List.mem_cons_of_mem _ hw)) lw_privs_ok
    have hml : c.maxLocals = 4 := B.maxLocals_eq (hts0 _ List.mem_cons_self)
    have X₀ : Stand p l e room_1 s m #[Value.ref b] below meth c s₁ [] 0 0 := Stand.of_body B
    have hh0 : s₁.heap = s.heap := by rw [B.state]; rfl
    have hsz : scr.slots.size = xs.length := by rw [← Array.length_toList, hlist, List.length_map]
    have hval : ∀ j : Nat, j < xs.length → scr.slots[j]? = some (.int (xs.getD j 0)) := fun j hj => by
      rw [← Array.getElem?_toList, hlist]
      simp [hj]
    have hbl : b < s.heap.size := (Array.getElem?_eq_some_iff.mp hcb).1
    have hX : va_X b xs.length (fun j => xs.getD j 0) s s.heap := ⟨scr, hcb, hof, hkn, hsz, hval⟩
    have K : W p l e room_1 s m #[Value.ref b] below meth c s₁.heap [] 0 0 (lw_Z below #[Value.ref b] s) (entryFrame m ([Value.ref b] : List Value).toArray 4) := by
      rw [hh0]
      exact whole_start l hflags hbd ⟨B.exec, B.bytes, B.returns, hml, hown, hts, hX, hbl, B.notSynchronized, hgv⟩
    obtain ⟨t, a1, o, b1, b2, b3⟩ := K s₁ rfl X₀
    exact ⟨t, o, a1, b1, b2, b3⟩
theorem lw_pre_spec {args : Array Value} {s : State} (h : (Jvm.Cond.and given_1 narrow_1).before args s = true) (hr : rest_1_c.before args s = true) : ∃ (b : Addr) (xs : List Int32), lw_P b xs args s := by
  have hs := flat_of_before _ h
  have hq := flat_of_before _ hr
  have hc : (Cond.count 1).before args s = true := hs _ (by decide +kernel)
  have harr : (Cond.arrayOf (.arg 0) .int).before args s = true := hs _ (by decide +kernel)
  have hle : (Cond.le (.length (.arg 0)) (.int 260)).before args s = true := hs _ (by decide +kernel)
  have hlen : (Cond.isInt (.length (.arg 0))).before args s = true := hq _ (by decide +kernel)
  have hall : (Cond.all (.arg 0) (.isInt (.elem (.arg 0) (.index 0)))).before args s = true := hq _ (by decide +kernel)
  obtain ⟨b, xs, hb, hx⟩ := State.ints_of_pre rfl harr hlen hall
  have hsm : xs.length < 2 ^ 31 := hx.choose_spec.2.2.2
  have hev : (Term.length (.arg 0)).eval args s none [] s = some (.int xs.length.toInt32) := hx.length_eval hb
  have hv := Cond.le_ints hev (show (Term.int 260).eval args s none [] s = some (.int 260) from rfl)
  have hd : xs.length.toInt32 ≤ 260 := by
    simpa [Cond.before, Cond.holds, hv] using hle
  have hN : xs.length ≤ 260 := (Int32.ofNat_le_ofNat hsm (by decide)).mp (show Int32.ofNat xs.length ≤ Int32.ofNat 260 from hd)
  exact ⟨b, xs, Cond.one_arg hc (show args[0]? = some (.ref b) from hb), hx, hN, h⟩
theorem lw_comes (l : Launch) (hflags : l.flags = flags0) : Comes l x (Jvm.Cond.code x code maxLocals ret :: tables_1) room_1 (fun tb e args s => Calls_1 tb e args s ∧ rest_1 tb e args s ∧ Pre_1 tb e args s)
    (fun _ _ args s o t => lw_Q args s o t) := by
  intro p e ha hc hk s m args below hf hfit hheap happ hpre
  obtain ⟨b, xs, hP⟩ := lw_pre_spec hpre.2.2 hpre.2.1
  obtain ⟨k, o, h1, h2, h3, hQ⟩ := lw_walk l hflags b xs p e ha hc hk s m args below hf ((Spec.applies_iff_loose hf).mp happ).1 hP trivial
  exact ⟨k, o, h1, h2, h3, hQ⟩
theorem lw_frame {s t : State} {o : Outcome} {args : Array Value} (h : Framed s o t [] 600000 7302250) :
    Framed s o t (fieldLocs frame_1_writes args s ++ arrayLocs frame_1_arrays args s ++ staticLocs frame_1_statics s) 600000 7302250 := h
theorem lw_limb (L : Cond) (hL : ∀ (args : Array Value) (s t : State), L.after args s (.returned (some (.int 1))) t = true) :
    ArmFor flags0 classFile x code maxLocals ret World_1 tables_1 room_1 Calls_1 rest_1 Pre_1
      (fun tb e a s o t => postC L tb e a s o t ∧ Framed s o t (fieldLocs frame_1_writes a s ++ arrayLocs frame_1_arrays a s ++ staticLocs frame_1_statics s) 600000 7302250) := by
  intro l hflags _ _ p e ha hc hk s m args below hf hfit hheap happ hpre
  obtain ⟨k, o, h1, h2, h3, rfl, hF⟩ := lw_comes l hflags p e ha hc hk s m args below hf hfit hheap happ hpre
  exact ⟨k, _, h1, h2, h3, hL args s _, lw_frame hF⟩
theorem i_vc : Claimed_1_1 ∧ Claimed_1_2 := ⟨lw_limb limb_1_1 (fun args s t => by simp [limb_1_1, Cond.after, Cond.holds, Cond.value]), lw_limb limb_1_2 (fun args s t => Cond.after_iff.mpr (by
  first | (rw [show limb_1_2 = Cond.eq .result (.int 1) from rfl, Cond.eq_ints (x := 1) (y := 1) rfl rfl]; simp; done) | (simp [limb_1_2, Cond.value, Term.eval]; done)))⟩
