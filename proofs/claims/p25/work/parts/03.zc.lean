-- fields, arrays, calls, ends
section ZW
variable {p : Program} {l : Launch} {e : Env} {R : Room} {s : State} {m : MethodId} {args : Array Value} {below : List Frame} {meth : Method} {c : Code} {H : Heap} {locs : List Loc} {cells slots : Nat} {Q : State → Prop}
variable {D : va_G} {cA : ClassId} {cc : ByteArray} {nL : Nat} {own : String} {ret : Option FieldType} {ls : Array Slot} {lv lv' : List (Nat × Value)} {rest : List Value} {A : Nat → Prop} {ws : va_W}
/-- a class among the worlds': its number, name, fields -/
def zCl (ci : Nat) (C : String) (T : u_T) (N : Nat) (ty : Nat → FieldType) : Prop := vwCl[ci]? = some (C, T, N) ∧ (∀ w ∈ u_ws C T N, w ∈ wsG) ∧ (∀ k, k < N → parseFieldDescriptor (T k).2.2.1 = some (ty k)) ∧ ∀ a, a < N → ∀ b, b < N → a ≠ b → (T a).2.1 ≠ (T b).2.1
theorem z_get (pc : Nat) {a : Nat} {C : String} {T : u_T} {N ci ix : Nat} {ty : Nat → FieldType} {fs : List Value} {v : Value} (hC : zCl ci C T N ty) (q0 k : Nat) (hlink : Cond.fieldLink own ix (T k).1 (T k).2.1 (T k).2.2.1 ∈ wsG) (X : zX D cA p s m args meth c cc nL own ret) (d : decode cc pc = .ok (.getfield ix, 3)) (hw : zH D A s ws H locs) (he : ws[q0]? = some (a, .inr (ci, fs))) (hk : k < N) (hv : fs[k]? = some v) (kk : W p l e R s m args below meth c H locs cells slots Q (F0 m (pc + 3) ls (v :: rest))) : W p l e R s m args below meth c H locs cells slots Q (F0 m pc ls (.ref a :: rest)) :=
  va_get X.1.1 X.1.2.1 X.1.2.2.2.2 hC.2.1 X.1.2.2.2.1 X.2.1 hw.1 q0 he hC.1 k hk (X.1.2.2.2.2 _ hlink) (fun _ h => h) hv d kk
theorem z_getN (pc : Nat) {a : Nat} {C host : String} {T : u_T} {N ci ix : Nat} {ty : Nat → FieldType} {fs : List Value} {v : Value} (hC : zCl ci C T N ty) (q0 k : Nat) (hlink : Cond.fieldLinkNest own ix (T k).1 (T k).2.1 (T k).2.2.1 host ∈ wsN) (X : zX D cA p s m args meth c cc nL own ret) (d : decode cc pc = .ok (.getfield ix, 3)) (hw : zH D A s ws H locs) (he : ws[q0]? = some (a, .inr (ci, fs))) (hk : k < N) (hv : fs[k]? = some v) (kk : W p l e R s m args below meth c H locs cells slots Q (F0 m (pc + 3) ls (v :: rest))) : W p l e R s m args below meth c H locs cells slots Q (F0 m pc ls (.ref a :: rest)) :=
  va_getN X.1.1 X.1.2.1 X.1.2.2.2.2 hC.2.1 X.1.2.2.2.1 X.2.1 hw.1 q0 he hC.1 k hk (va_Nw.use rfl (X.2.2.1 _ hlink)) (fun _ h => h) hv d kk
theorem z_put (pc : Nat) {a : Nat} {C : String} {T : u_T} {N ci ix : Nat} {ty : Nat → FieldType} {fs : List Value} {v : Value} (hC : zCl ci C T N ty) (q0 k : Nat) (ws' : va_W) (hlink : Cond.fieldLink own ix (T k).1 (T k).2.1 (T k).2.2.1 ∈ wsG) (X : zX D cA p s m args meth c cc nL own ret) (d : decode cc pc = .ok (.putfield ix, 3)) (hw : zH D A s ws H locs) (he : ws[q0]? = some (a, .inr (ci, fs))) (hk : k < N) (hfin : (T k).2.2.2 = false) (hn : narrow (ty k) v = v) (hfit : fits (ty k) v = true) (hlen : k < fs.length) (hws : ws.set q0 (a, .inr (ci, fs.set k v)) = ws') (kk : ∀ (H : Heap) (locs : List Loc), zH D A s ws' H locs → W p l e R s m args below meth c H locs cells slots Q (F0 m (pc + 3) ls rest)) : W p l e R s m args below meth c H locs cells slots Q (F0 m pc ls (v :: .ref a :: rest)) := by
  subst hws
  exact va_put X.1.1 X.1.2.1 X.1.2.2.2.2 hC.2.1 ty hC.2.2.1 hC.2.2.2 X.1.2.2.2.1 X.2.1 hw.1 hw.2.1 hw.2.2.1 q0 he hC.1 k hk (X.1.2.2.2.2 _ hlink) (fun _ h => h) hfin (hC.2.2.1 k hk) hn hfit hlen d (fun H1 locs1 h1 h2 h3 => kk H1 locs1 ⟨h1, h2, h3, hw.2.2.2⟩)
theorem z_putN (pc : Nat) {a : Nat} {C host : String} {T : u_T} {N ci ix : Nat} {ty : Nat → FieldType} {fs : List Value} {v : Value} (hC : zCl ci C T N ty) (q0 k : Nat) (ws' : va_W) (hlink : Cond.fieldLinkNest own ix (T k).1 (T k).2.1 (T k).2.2.1 host ∈ wsN) (X : zX D cA p s m args meth c cc nL own ret) (d : decode cc pc = .ok (.putfield ix, 3)) (hw : zH D A s ws H locs) (he : ws[q0]? = some (a, .inr (ci, fs))) (hk : k < N) (hfin : (T k).2.2.2 = false) (hn : narrow (ty k) v = v) (hfit : fits (ty k) v = true) (hlen : k < fs.length) (hws : ws.set q0 (a, .inr (ci, fs.set k v)) = ws') (kk : ∀ (H : Heap) (locs : List Loc), zH D A s ws' H locs → W p l e R s m args below meth c H locs cells slots Q (F0 m (pc + 3) ls rest)) : W p l e R s m args below meth c H locs cells slots Q (F0 m pc ls (v :: .ref a :: rest)) := by
  subst hws
  exact va_putN X.1.1 X.1.2.1 X.1.2.2.2.2 hC.2.1 ty hC.2.2.1 hC.2.2.2 X.1.2.2.2.1 X.2.1 hw.1 hw.2.1 hw.2.2.1 q0 he hC.1 k hk (va_Nw.use rfl (X.2.2.1 _ hlink)) (fun _ h => h) hfin (hC.2.2.1 k hk) hn hfit hlen d (fun H1 locs1 h1 h2 h3 => kk H1 locs1 ⟨h1, h2, h3, hw.2.2.2⟩)
theorem z_iald (pc : Nat) {a n : Nat} {f : Nat → Int32} {i : Int32} (q0 : Nat) (v : Int32) (X : zX D cA p s m args meth c cc nL own ret) (d : decode cc pc = .ok (.iaload, 1)) (hw : zH D A s ws H locs) (he : ws[q0]? = some (a, .inl (cA, n, .inl f))) (hin : ¬ (i < 0 ∨ n ≤ i.toNatClampNeg)) (hv : f i.toNatClampNeg = v) (kk : W p l e R s m args below meth c H locs cells slots Q (F0 m (pc + 1) ls (.int v :: rest))) : W p l e R s m args below meth c H locs cells slots Q (F0 m pc ls (.int i :: .ref a :: rest)) := by
  subst hv
  exact va_iald X.1.1 X.1.2.1 X.2.1 hw.1 q0 0 he rfl hin d kk
theorem z_iast (pc : Nat) {a n : Nat} {f : Nat → Int32} {i x : Int32} (q0 : Nat) (ws' : va_W) (X : zX D cA p s m args meth c cc nL own ret) (d : decode cc pc = .ok (.iastore, 1)) (hw : zH D A s ws H locs) (he : ws[q0]? = some (a, .inl (cA, n, .inl f))) (hin : ¬ (i < 0 ∨ n ≤ i.toNatClampNeg)) (hws : ws.set q0 (a, .inl (cA, n, .inl (upd f i.toNatClampNeg x))) = ws') (kk : ∀ (H : Heap) (locs : List Loc), zH D A s ws' H locs → W p l e R s m args below meth c H locs cells slots Q (F0 m (pc + 1) ls rest)) : W p l e R s m args below meth c H locs cells slots Q (F0 m pc ls (.int x :: .int i :: .ref a :: rest)) := by
  subst hws
  exact va_iast X.1.1 X.1.2.1 X.2.1 hw.1 hw.2.1 hw.2.2.1 q0 0 he rfl hin d (fun H1 locs1 h1 h2 h3 => kk H1 locs1 ⟨h1, h2, h3, hw.2.2.2⟩)
theorem z_alen (pc : Nat) {a n : Nat} {f : Nat → Int32} (q0 : Nat) (v : Int32) (X : zX D cA p s m args meth c cc nL own ret) (d : decode cc pc = .ok (.arraylength, 1)) (hw : zH D A s ws H locs) (he : ws[q0]? = some (a, .inl (cA, n, .inl f))) (hv : Int32.ofNat n = v) (kk : W p l e R s m args below meth c H locs cells slots Q (F0 m (pc + 1) ls (.int v :: rest))) : W p l e R s m args below meth c H locs cells slots Q (F0 m pc ls (.ref a :: rest)) :=
  va_alen X.1.1 X.1.2.1 X.2.1 hw.1 q0 0 he rfl hv d kk
/-- ws' is ws with w' at the places isC; the places isR stay -/
def zSb (ws ws' : va_W) (isC isR : List Nat) (w' : va_W) : Prop := ws'.map Prod.fst = ws.map Prod.fst ∧ isC.map (fun i => ws'[i]?) = w'.map some ∧ isR.map (fun i => ws'[i]?) = isR.map (fun i => ws[i]?) ∧ (List.range (isC.length + isR.length)).all (fun i => isC.contains i || isR.contains i) = true ∧ ws'.length = isC.length + isR.length
theorem zSb_at {ws ws' : va_W} {isC isR : List Nat} {w' : va_W} (h : zSb ws ws' isC isR w') {k : Nat} (hk : k < ws'.length) : (∃ j : Nat, isC[j]? = some k ∧ w'[j]? = ws'[k]?) ∨ (k ∈ isR ∧ ws'[k]? = ws[k]?) := by
  obtain ⟨h1, h2, h3, h4, h5⟩ := h
  rw [h5] at hk
  have h6 := List.all_eq_true.mp h4 k (List.mem_range.mpr hk)
  rcases Bool.or_eq_true_iff.mp h6 with h7 | h7
  · obtain ⟨j, hj⟩ := List.getElem?_of_mem (List.contains_iff_mem.mp h7)
    refine Or.inl ⟨j, hj, ?_⟩
    have h8 : (isC.map (fun i => ws'[i]?))[j]? = (w'.map some)[j]? := by rw [h2]
    rw [List.getElem?_map, List.getElem?_map, hj] at h8
    cases hwj : w'[j]? with
    | none => rw [hwj] at h8; cases h8
    | some x => rw [hwj] at h8; exact (Option.some.inj h8).symm
  · have h9 := List.contains_iff_mem.mp h7
    obtain ⟨j, hj⟩ := List.getElem?_of_mem h9
    refine Or.inr ⟨h9, ?_⟩
    have h8 : (isR.map (fun i => ws'[i]?))[j]? = (isR.map (fun i => ws[i]?))[j]? := by rw [h3]
    rw [List.getElem?_map, List.getElem?_map, hj] at h8
    exact Option.some.inj h8
/-- a call's cells among the caller's: before and behind -/
def zCW (ws ws' : va_W) (isC isR : List Nat) (wc w' : va_W) : Prop := isC.map (fun i => ws[i]?) = wc.map some ∧ w'.map Prod.fst = wc.map Prod.fst ∧ va_nd isC = true ∧ zSb ws ws' isC isR w'
/-- behind a call -/
theorem z_go (pc : Nat) {wc w' : va_W} {st : List Value} {res : Option Value} {a : Array Value} (isC isR : List Nat) (ws' : va_W) (hr : va_Run p l e R s m args below meth c H locs cells slots 0 0 (F0 m pc ls st) rest (zQ D w' res (va_A wc H.size) a) (va_A wc H.size)) (hw : zH D A s ws H locs) (hC : isC.map (fun i => ws[i]?) = wc.map some) (hf : w'.map Prod.fst = wc.map Prod.fst) (hn : va_nd isC = true) (hws : zSb ws ws' isC isR w')
    (kk : ∀ (H : Heap) (locs : List Loc), zH D A s ws' H locs → W p l e R s m args below meth c H locs cells slots Q (F0 m (pc + 3) ls (res.toList ++ rest))) : W p l e R s m args below meth c H locs cells slots Q (F0 m pc ls st) := by
  intro T hT X
  obtain ⟨v, st₀, t, T', L, h0, X', hL, e1, e2, ⟨hv, hP1, hz, hk⟩, hst⟩ := hr T hT X
  cases hv
  rw [h0] at hz hk
  obtain ⟨hP, hD, hS, hA⟩ := hw
  have hF : ∀ q, va_A wc H.size q → A q := va_free hD hS hA isC hC
  have hlen : isC.length = wc.length := by have := congrArg List.length hC; simpa using this
  have hlen2 : w'.length = wc.length := by have := congrArg List.length hf; simpa using this
  have atC : ∀ (j i : Nat), isC[j]? = some i → ws[i]? = wc[j]? := by
    intro j i hj
    have h1 : (isC.map (fun i => ws[i]?))[j]? = (wc.map some)[j]? := by rw [hC]
    rw [List.getElem?_map, List.getElem?_map, hj] at h1
    cases hwj : wc[j]? with
    | none => rw [hwj] at h1; cases h1
    | some x => rw [hwj] at h1; exact Option.some.inj h1
  have hfst : ∀ (j : Nat) (q : Nat × va_E), w'[j]? = some q → ∃ x : Nat × va_E, wc[j]? = some x ∧ x.1 = q.1 := by
    intro j q hq
    have h1 : (wc.map Prod.fst)[j]? = some q.1 := by rw [← hf, List.getElem?_map, hq]; rfl
    rw [List.getElem?_map] at h1
    cases hwj : wc[j]? with
    | none => rw [hwj] at h1; cases h1
    | some x => rw [hwj] at h1; exact ⟨x, rfl, Option.some.inj h1⟩
  have hD2 : va_D A ws' := zD_fst hD hws.1
  have hP2 : va_P D vwCl ws' T'.heap := by
    intro k q hq
    have hkl : k < ws'.length := (List.getElem?_eq_some_iff.mp hq).1
    rcases zSb_at hws hkl with ⟨j, h1, h2⟩ | ⟨h1, h2⟩
    · rw [e1]; exact hP1 j q (by rw [h2, hq])
    · rw [hq] at h2
      by_cases hkc : k ∈ isC
      · obtain ⟨j, hj⟩ := List.getElem?_of_mem hkc
        have h3 : (isC.map (fun i => ws'[i]?))[j]? = (w'.map some)[j]? := by rw [hws.2.1]
        rw [List.getElem?_map, List.getElem?_map, hj] at h3
        cases hwj : w'[j]? with
        | none => rw [hwj] at h3; cases h3
        | some x =>
          rw [hwj] at h3
          have h4 : ws'[k]? = some x := Option.some.inj h3
          rw [hq] at h4
          cases h4
          rw [e1]; exact hP1 j _ hwj
      have h2 := h2.symm
      have hlt := (hP k q h2).lt
      refine (hP k q h2).kept ?_
      rw [e1]
      refine hk q.1 hlt (fun hA1 => ?_)
      rcases hA1 with ⟨k2, e2', h3⟩ | h3
      · obtain ⟨i2, hi2⟩ : ∃ i2, isC[k2]? = some i2 := ⟨_, List.getElem?_eq_getElem (by rw [hlen]; exact (List.getElem?_eq_some_iff.mp h3).1)⟩
        have h4 := atC k2 i2 hi2
        rw [h3] at h4
        have h5 := hD.1 k i2 q (q.1, e2') h2 h4 rfl
        subst h5
        exact hkc (List.mem_of_getElem? hi2)
      · omega
  obtain ⟨t2, a1, b1⟩ := kk T'.heap (locs ++ L) ⟨hP2, hD2, ⟨Nat.le_trans hS.1 (by rw [e1]; exact hz), fun q h1 h2 => by rw [e1, hk q (Nat.lt_of_lt_of_le h1 hS.1) (fun z => h2 (hF q z))]; exact hS.2.1 q h1 h2, fun q hq => by
      rcases List.mem_append.mp hq with h | h
      · exact hS.2.2 q h
      · exact hF _ (hL q h)⟩, hA⟩ T' rfl X'
  exact ⟨t2, hst t2 a1, b1⟩
theorem zM_blind {av : List Value} {wc : va_W} {sz : Nat} : FrameBlind (va_Pc av (zB D cA wc sz)) := fun a U g mk q => by
  obtain ⟨q0, q1, qP, qK, qN, qD⟩ := q
  exact ⟨q0, q1, qP, va_K.moved (u := U) (U := U.calling g mk a) (Vm.Alike.refl U.vm) qK, zN_calling qN, qD⟩
theorem zM_good {w : Cond} (h : w ∈ wsG) : GoodIn wsG (w :: wsG) := fun x hx => by
  have hx : x ∈ wsG := (List.mem_cons.mp hx).elim (fun e => e ▸ h) id
  exact ⟨hx, good_of_word (wsG_good x hx)⟩
/-- what a call site's method is, by the tables: instance methods -/
def zMV (C : String) (y : MethodName) (cc : ByteArray) (maxL : Nat) (ret : Option FieldType) (n : Nat) : Prop := Cond.code y cc maxL ret ∈ wsG ∧ Cond.initialized y.cls ∈ wsG ∧ (y.cls ≠ "java/lang/invoke/MethodHandle" ∧ y.cls ≠ "java/lang/invoke/VarHandle" ∧ (parseMethodDescriptor y.desc).map (fun d => d.parameters.length) = some n) ∧ Cond.instanceMethod y ∈ wsG ∧ Cond.selects C y y ∈ wsG
def zMS (y : MethodName) (cc : ByteArray) (maxL : Nat) (ret : Option FieldType) (n : Nat) : Prop := Cond.code y cc maxL ret ∈ wsG ∧ Cond.initialized y.cls ∈ wsG ∧ (y.cls ≠ "java/lang/invoke/MethodHandle" ∧ y.cls ≠ "java/lang/invoke/VarHandle" ∧ (parseMethodDescriptor y.desc).map (fun d => d.parameters.length) = some n) ∧ Cond.static y ∈ wsG
theorem zB_of {wc : va_W} {isC : List Nat} (X : zX D cA p s m args meth c cc nL own ret) (hw : zH D A s ws H locs) (hC : isC.map (fun i => ws[i]?) = wc.map some) (hn : va_nd isC = true) {U : State} (hU : U.heap = H) (hW : s.WarmedH U.vm) : zB D cA wc H.size U := by
  refine ⟨by rw [hU], ?_, va_K.moved hW.alike X.2.1, zN_warm hW X.2.2.1, ?_⟩
  · rw [hU]
    refine hw.1.sub isC ?_
    have h := congrArg (List.filterMap id) hC
    simpa [List.filterMap_map] using h
  · exact (hw.2.1.sub isC hn hC).weaken (fun _ _ _ _ => trivial)
theorem z_callV (pc : Nat) {C : String} {T : u_T} {N ci n ix b : Nat} {ty : Nat → FieldType} {fs : List Value} {y : MethodName} {bc : ByteArray} {maxL fr lo : Nat} {rt : Option FieldType} {As st : List Value} {wc w' : va_W} {res : Option Value} (hC : zCl ci C T N ty) (hMV : zMV C y bc maxL rt n) (hlink : Cond.methodLink own ix y ∈ wsG) (q0 : Nat) {isC isR : List Nat} {ws' : va_W} (rest : List Value) (hZ : zCW ws ws' isC isR wc w') (hM : zM l D cA y bc maxL rt fr lo (.ref b :: As) wc w' res) (X : zX D cA p s m args meth c cc nL own ret) (d : decode cc pc = .ok (.invokevirtual ix, 3)) (hw : zH D A s ws H locs) (hl : lv_has ls nL lv) (he : ws[q0]? = some (b, .inr (ci, fs)))
    (hn : As.length = n) (hst : st = As.reverse ++ .ref b :: rest) (hrest : (rest.map fun v => v.category).sum ≤ 8) (hR : fr + 1 ≤ R.frames ∧ 8 + (maxL + 11) + lo ≤ R.locals) (hcs : cells ≤ R.cells ∧ slots ≤ R.slots)
    (kk : ∀ (H : Heap) (locs : List Loc), zH D A s ws' H locs → W p l e R s m args below meth c H locs cells slots Q (F0 m (pc + 3) ls (res.toList ++ rest))) : W p l e R s m args below meth c H locs cells slots Q (F0 m pc ls st) := by
  subst hst
  have ht := X.1.2.2.2.2
  have hrv := va_recv X.2.1 hw.1 hC.1 he
  exact z_go pc isC isR ws' (va_runV (As := As) (rest := rest) X.1 (hM H.size) ⟨callB_of n ht (zM_good hMV.1) rfl rfl rfl (ht _ hMV.2.1) (ht _ hlink) hMV.2.2.1 hR, ht _ hMV.2.2.2.1, ht _ hMV.2.2.2.2⟩ ⟨zM_blind, hrv, fun U hU hW => ⟨rfl, zB_of X hw hZ.1 hZ.2.2.1 hU hW⟩⟩ rfl hn hl.1 rfl (lv_room hrest) d ⟨hcs.1, hcs.2⟩) hw hZ.1 hZ.2.1 hZ.2.2.1 hZ.2.2.2 kk
theorem z_callVN (pc : Nat) {C host : String} {T : u_T} {N ci n ix b : Nat} {ty : Nat → FieldType} {fs : List Value} {y : MethodName} {bc : ByteArray} {maxL fr lo : Nat} {rt : Option FieldType} {As st : List Value} {wc w' : va_W} {res : Option Value} (hC : zCl ci C T N ty) (hMV : zMV C y bc maxL rt n) (hlink : Cond.methodLinkNest own ix y host ∈ wsN) (q0 : Nat) {isC isR : List Nat} {ws' : va_W} (rest : List Value) (hZ : zCW ws ws' isC isR wc w') (hM : zM l D cA y bc maxL rt fr lo (.ref b :: As) wc w' res) (X : zX D cA p s m args meth c cc nL own ret) (d : decode cc pc = .ok (.invokevirtual ix, 3)) (hw : zH D A s ws H locs) (hl : lv_has ls nL lv) (he : ws[q0]? = some (b, .inr (ci, fs)))
    (hn : As.length = n) (hst : st = As.reverse ++ .ref b :: rest) (hrest : (rest.map fun v => v.category).sum ≤ 8) (hR : fr + 1 ≤ R.frames ∧ 8 + (maxL + 11) + lo ≤ R.locals) (hcs : cells ≤ R.cells ∧ slots ≤ R.slots)
    (kk : ∀ (H : Heap) (locs : List Loc), zH D A s ws' H locs → W p l e R s m args below meth c H locs cells slots Q (F0 m (pc + 3) ls (res.toList ++ rest))) : W p l e R s m args below meth c H locs cells slots Q (F0 m pc ls st) := by
  subst hst
  have ht := X.1.2.2.2.2
  have hrv := va_recv X.2.1 hw.1 hC.1 he
  exact z_go pc isC isR ws' (va_runVN (As := As) (rest := rest) X.1 (hM H.size) ⟨va_cnB n ht (zM_good hMV.1) rfl rfl rfl (X.2.2.1 _ hlink) (ht _ hMV.2.1) hMV.2.2.1 hR, ht _ hMV.2.2.2.1, ht _ hMV.2.2.2.2⟩ ⟨zM_blind, hrv, fun U hU hW => ⟨rfl, zB_of X hw hZ.1 hZ.2.2.1 hU hW⟩⟩ rfl hn hl.1 rfl (lv_room hrest) d ⟨hcs.1, hcs.2⟩) hw hZ.1 hZ.2.1 hZ.2.2.1 hZ.2.2.2 kk
theorem z_callS (pc : Nat) {n ix : Nat} {y : MethodName} {bc : ByteArray} {maxL fr lo : Nat} {rt : Option FieldType} {As st : List Value} {wc w' : va_W} {res : Option Value} (hMS : zMS y bc maxL rt n) (hlink : Cond.methodLink own ix y ∈ wsG) {isC isR : List Nat} {ws' : va_W} (rest : List Value) (hZ : zCW ws ws' isC isR wc w') (hM : zM l D cA y bc maxL rt fr lo As wc w' res) (X : zX D cA p s m args meth c cc nL own ret) (d : decode cc pc = .ok (.invokestatic ix, 3)) (hw : zH D A s ws H locs) (hl : lv_has ls nL lv)
    (hn : As.length = n) (hst : st = As.reverse ++ rest) (hrest : (rest.map fun v => v.category).sum ≤ 8) (hR : fr + 1 ≤ R.frames ∧ 8 + (maxL + 11) + lo ≤ R.locals) (hcs : cells ≤ R.cells ∧ slots ≤ R.slots)
    (kk : ∀ (H : Heap) (locs : List Loc), zH D A s ws' H locs → W p l e R s m args below meth c H locs cells slots Q (F0 m (pc + 3) ls (res.toList ++ rest))) : W p l e R s m args below meth c H locs cells slots Q (F0 m pc ls st) := by
  subst hst
  have ht := X.1.2.2.2.2
  exact z_go pc isC isR ws' (va_runS (As := As) (rest := rest) X.1 (hM H.size) ⟨callB_of n ht (zM_good hMS.1) rfl rfl rfl (ht _ hMS.2.1) (ht _ hlink) hMS.2.2.1 hR, ht _ hMS.2.2.2⟩ ⟨zM_blind, fun U hU hW => ⟨rfl, zB_of X hw hZ.1 hZ.2.2.1 hU hW⟩⟩ rfl hn hl.1 rfl (lv_room hrest) d ⟨hcs.1, hcs.2⟩) hw hZ.1 hZ.2.1 hZ.2.2.1 hZ.2.2.2 kk
theorem z_callSN (pc : Nat) {host : String} {n ix : Nat} {y : MethodName} {bc : ByteArray} {maxL fr lo : Nat} {rt : Option FieldType} {As st : List Value} {wc w' : va_W} {res : Option Value} (hMS : zMS y bc maxL rt n) (hlink : Cond.methodLinkNest own ix y host ∈ wsN) {isC isR : List Nat} {ws' : va_W} (rest : List Value) (hZ : zCW ws ws' isC isR wc w') (hM : zM l D cA y bc maxL rt fr lo As wc w' res) (X : zX D cA p s m args meth c cc nL own ret) (d : decode cc pc = .ok (.invokestatic ix, 3)) (hw : zH D A s ws H locs) (hl : lv_has ls nL lv)
    (hn : As.length = n) (hst : st = As.reverse ++ rest) (hrest : (rest.map fun v => v.category).sum ≤ 8) (hR : fr + 1 ≤ R.frames ∧ 8 + (maxL + 11) + lo ≤ R.locals) (hcs : cells ≤ R.cells ∧ slots ≤ R.slots)
    (kk : ∀ (H : Heap) (locs : List Loc), zH D A s ws' H locs → W p l e R s m args below meth c H locs cells slots Q (F0 m (pc + 3) ls (res.toList ++ rest))) : W p l e R s m args below meth c H locs cells slots Q (F0 m pc ls st) := by
  subst hst
  have ht := X.1.2.2.2.2
  exact z_go pc isC isR ws' (va_runSN (As := As) (rest := rest) X.1 (hM H.size) ⟨va_cnB n ht (zM_good hMS.1) rfl rfl rfl (X.2.2.1 _ hlink) (ht _ hMS.2.1) hMS.2.2.1 hR, ht _ hMS.2.2.2, trivial⟩ ⟨zM_blind, fun U hU hW => ⟨rfl, zB_of X hw hZ.1 hZ.2.2.1 hU hW⟩⟩ rfl hn hl.1 rfl (lv_room hrest) d ⟨hcs.1, hcs.2⟩) hw hZ.1 hZ.2.1 hZ.2.2.1 hZ.2.2.2 kk
/-- a method's walk -/
theorem z_body {y : MethodName} {maxL fr lo : Nat} {av : List Value} {w w' : va_W} {res : Option Value} (hy : plainName y.cls = true) (hav : (lg_sl av).length ≤ maxL)
    (body : ∀ (p : Program) (e : Env) (s : State) (m : MethodId) (args : Array Value) (below : List Frame) (meth : Method) (c : Code) (ls : Array Slot) (H : Heap) (locs : List Loc) (A : Nat → Prop), zX D cA p s m args meth c cc maxL y.cls ret → lv_has ls maxL (lv_args 0 av) → zH D A s w H locs → W p l e (zR fr lo) s m args below meth c H locs 0 0 (MQ below (zQ D w' res A) args s 0 0 A) (F0 m 0 ls [])) : zM l D cA y cc maxL ret fr lo av w w' res := by
  intro sz
  refine Met.ofW (cc := cc) (maxL := maxL) (ret := ret) hy rfl ?_
  intro p e s m args below meth c s₁ B hml hv
  obtain ⟨rfl, hsz, hP, hK, hN, hD0⟩ := hv
  have hts := atoms_spec (ws := .code y cc maxL ret :: wsG) B.pre
  have hown : s.vm.findClass y.cls = some m.cls := findClass_of_methodNamed B.named
  subst hsz
  rw [lg_entry_eq]
  have hl := lv_entry av (n := maxL) hav
  exact body p e s m _ below meth c _ s.heap [] (va_A w s.heap.size) ⟨⟨B.exec, B.bytes, hml, hown, fun w h => hts w (List.mem_cons_of_mem _ h)⟩, hK, hN, B.notSynchronized, B.returns⟩ hl ⟨hP, hD0.self, va_S.rf, fun q h => Or.inr h⟩
theorem z_iret (pc : Nat) {w' : va_W} {res : Option Value} {v : Int32} (X : zX D cA p s m args meth c cc nL own (some .int)) (d : decode cc pc = .ok (.ireturn, 1)) (hw : zH D A s ws H locs) (hws : ws = w') (hres : res = some (.int v)) : W p l e R s m args below meth c H locs 0 0 (MQ below (zQ D w' res A) args s 0 0 A) (F0 m pc ls [.int v]) := by
  subst hws
  subst hres
  exact W.iret X.1.1 X.1.2.1 X.2.2.2.2 (fun t ht hW => ⟨rfl, by rw [ht]; exact hw.1, hw.2.2.1.F ht⟩) hw.2.2.1.2.2 d X.2.2.2.1
theorem z_zret (pc : Nat) {w' : va_W} {res : Option Value} {v : Int32} (X : zX D cA p s m args meth c cc nL own (some .boolean)) (d : decode cc pc = .ok (.ireturn, 1)) (hw : zH D A s ws H locs) (hv : v = 0 ∨ v = 1) (hws : ws = w') (hres : res = some (.int v)) : W p l e R s m args below meth c H locs 0 0 (MQ below (zQ D w' res A) args s 0 0 A) (F0 m pc ls [.int v]) := by
  subst hws
  subst hres
  exact W.zret X.1.1 X.1.2.1 X.2.2.2.2 (by rcases hv with h | h <;> (subst h; decide)) (fun t ht hW => ⟨rfl, by rw [ht]; exact hw.1, hw.2.2.1.F ht⟩) hw.2.2.1.2.2 d X.2.2.2.1
theorem z_lret (pc : Nat) {w' : va_W} {res : Option Value} {v : Int64} (X : zX D cA p s m args meth c cc nL own (some .long)) (d : decode cc pc = .ok (.lreturn, 1)) (hw : zH D A s ws H locs) (hws : ws = w') (hres : res = some (.long v)) : W p l e R s m args below meth c H locs 0 0 (MQ below (zQ D w' res A) args s 0 0 A) (F0 m pc ls [.long v]) := by
  subst hws
  subst hres
  exact W.lret X.1.1 X.1.2.1 X.2.2.2.2 (fun t ht hW => ⟨rfl, by rw [ht]; exact hw.1, hw.2.2.1.F ht⟩) hw.2.2.1.2.2 d X.2.2.2.1
theorem z_vret (pc : Nat) {w' : va_W} {res : Option Value} (X : zX D cA p s m args meth c cc nL own none) (d : decode cc pc = .ok (.return_, 1)) (hw : zH D A s ws H locs) (hws : ws = w') (hres : res = none) : W p l e R s m args below meth c H locs 0 0 (MQ below (zQ D w' res A) args s 0 0 A) (F0 m pc ls []) := by
  subst hws
  subst hres
  exact W.vret X.1.1 X.1.2.1 X.2.2.2.2 (fun t ht hW => ⟨rfl, by rw [ht]; exact hw.1, hw.2.2.1.F ht⟩) hw.2.2.1.2.2 d X.2.2.2.1
theorem z_max (pc : Nat) {ix : Nat} {x y : Int32} (hlink : Cond.methodLink own ix Lib.Math.max.name ∈ wsG) (hMS : Cond.static Lib.Math.max.name ∈ wsG ∧ Cond.initialized "java/lang/Math" ∈ wsG ∧ Cond.code Lib.Math.max.name Lib.Math.max.code 2 (some .int) ∈ wsG) (X : zX D cA p s m args meth c cc nL own ret) (d : decode cc pc = .ok (.invokestatic ix, 3)) (hl : lv_has ls nL lv) (hR : 1 ≤ R.frames ∧ (rest.map fun v => v.category).sum + 13 ≤ R.locals) (hcs : cells ≤ R.cells ∧ slots ≤ R.slots)
    (kk : W p l e R s m args below meth c H locs cells slots Q (F0 m (pc + 3) ls (.int (if x < y then y else x) :: rest))) : W p l e R s m args below meth c H locs cells slots Q (F0 m pc ls (.int y :: .int x :: rest)) :=
  va_mmax X.1.1 X.1.2.1 (X.1.2.2.1.trans hl.1.symm) X.1.2.2.2.1 (X.1.2.2.2.2 _ hlink) (X.1.2.2.2.2 _ hMS.1) (X.1.2.2.2.2 _ hMS.2.1) (X.1.2.2.2.2 _ hMS.2.2) hR.1 hR.2 hcs.1 hcs.2 d kk
theorem z_min (pc : Nat) {ix : Nat} {x y : Int32} (hlink : Cond.methodLink own ix Lib.Math.min.name ∈ wsG) (hMS : Cond.static Lib.Math.min.name ∈ wsG ∧ Cond.initialized "java/lang/Math" ∈ wsG ∧ Cond.code Lib.Math.min.name Lib.Math.min.code 2 (some .int) ∈ wsG) (X : zX D cA p s m args meth c cc nL own ret) (d : decode cc pc = .ok (.invokestatic ix, 3)) (hl : lv_has ls nL lv) (hR : 1 ≤ R.frames ∧ (rest.map fun v => v.category).sum + 13 ≤ R.locals) (hcs : cells ≤ R.cells ∧ slots ≤ R.slots)
    (kk : W p l e R s m args below meth c H locs cells slots Q (F0 m (pc + 3) ls (.int (if y < x then y else x) :: rest))) : W p l e R s m args below meth c H locs cells slots Q (F0 m pc ls (.int y :: .int x :: rest)) :=
  va_mmin X.1.1 X.1.2.1 (X.1.2.2.1.trans hl.1.symm) X.1.2.2.2.1 (X.1.2.2.2.2 _ hlink) (X.1.2.2.2.2 _ hMS.1) (X.1.2.2.2.2 _ hMS.2.1) (X.1.2.2.2.2 _ hMS.2.2) hR.1 hR.2 hcs.1 hcs.2 d kk
end ZW
-- methods that take the law's own row
section ZX
variable {p : Program} {l : Launch} {e : Env} {R : Room} {s : State} {m : MethodId} {args : Array Value} {below : List Frame} {meth : Method} {c : Code} {H : Heap} {locs : List Loc} {cells slots : Nat} {Q : State → Prop}
variable {D : va_G} {cA : ClassId} {cc : ByteArray} {nL : Nat} {own : String} {ret : Option FieldType} {ls : Array Slot} {lv lv' : List (Nat × Value)} {rest : List Value} {A : Nat → Prop} {ws : va_W} {b L : Nat} {xs : Nat → Int32}
theorem z_slen (pc : Nat) (X : zX D cA p s m args meth c cc nL own ret) (d : decode cc pc = .ok (.arraylength, 1)) (hw : zH D A s ws H locs) (hS : va_X b L xs s s.heap ∧ b < s.heap.size ∧ ¬ A b) (kk : W p l e R s m args below meth c H locs cells slots Q (F0 m (pc + 1) ls (.int (Int32.ofNat L) :: rest))) : W p l e R s m args below meth c H locs cells slots Q (F0 m pc ls (.ref b :: rest)) :=
  va_slen X.1.1 X.1.2.1 hS.1 hS.2.1 hS.2.2 hw.2.2.1 d kk
theorem z_sld (pc : Nat) {i : Int32} (X : zX D cA p s m args meth c cc nL own ret) (d : decode cc pc = .ok (.iaload, 1)) (hw : zH D A s ws H locs) (hS : va_X b L xs s s.heap ∧ b < s.heap.size ∧ ¬ A b) (hin : ¬ (i < 0 ∨ L ≤ i.toNatClampNeg)) (kk : W p l e R s m args below meth c H locs cells slots Q (F0 m (pc + 1) ls (.int (xs i.toNatClampNeg) :: rest))) : W p l e R s m args below meth c H locs cells slots Q (F0 m pc ls (.int i :: .ref b :: rest)) :=
  va_sld X.1.1 X.1.2.1 hS.1 hS.2.1 hS.2.2 hw.2.2.1 hin d kk
def zBx (D : va_G) (cA : ClassId) (sz b L : Nat) (xs : Nat → Int32) : State → Prop := fun U => zB D cA [] sz U ∧ va_X b L xs U U.heap ∧ b < sz
def zMx (l : Launch) (D : va_G) (cA : ClassId) (y : MethodName) (cc : ByteArray) (maxL : Nat) (ret : Option FieldType) (fr lo : Nat) (av : List Value) (b L : Nat) (xs : Nat → Int32) (res : Option Value) : Prop :=
  ∀ sz, Met l y (.code y cc maxL ret :: wsG) (zR fr lo) (va_Pc av (zBx D cA sz b L xs)) (zQ D [] res (va_A [] sz)) 0 0 (va_A [] sz)
theorem zMx_blind {av : List Value} {sz : Nat} : FrameBlind (va_Pc av (zBx D cA sz b L xs)) := fun a U g mk q => by
  obtain ⟨q0, ⟨q1, qP, qK, qN, qD⟩, qX, ql⟩ := q
  exact ⟨q0, ⟨q1, qP, va_K.moved (u := U) (U := U.calling g mk a) (Vm.Alike.refl U.vm) qK, zN_calling qN, qD⟩, va_X.moved (u := U) (U := U.calling g mk a) (Vm.Alike.refl U.vm) qX, ql⟩
theorem z_callSx (pc : Nat) {n ix : Nat} {y : MethodName} {bc : ByteArray} {maxL fr lo : Nat} {rt : Option FieldType} {As st : List Value} {res : Option Value} (hMS : zMS y bc maxL rt n) (hlink : Cond.methodLink own ix y ∈ wsG) (rest : List Value) (hM : zMx l D cA y bc maxL rt fr lo As b L xs res) (X : zX D cA p s m args meth c cc nL own ret) (d : decode cc pc = .ok (.invokestatic ix, 3)) (hw : zH D A s ws H locs) (hl : lv_has ls nL lv) (hS : va_X b L xs s s.heap ∧ b < s.heap.size ∧ ¬ A b)
    (hn : As.length = n) (hst : st = As.reverse ++ rest) (hrest : (rest.map fun v => v.category).sum ≤ 8) (hR : fr + 1 ≤ R.frames ∧ 8 + (maxL + 11) + lo ≤ R.locals) (hcs : cells ≤ R.cells ∧ slots ≤ R.slots)
    (kk : ∀ (H : Heap) (locs : List Loc), zH D A s ws H locs → W p l e R s m args below meth c H locs cells slots Q (F0 m (pc + 3) ls (res.toList ++ rest))) : W p l e R s m args below meth c H locs cells slots Q (F0 m pc ls st) := by
  subst hst
  have ht := X.1.2.2.2.2
  have hZ : zCW ws ws [] (List.range ws.length) [] [] := by
    refine ⟨rfl, rfl, rfl, rfl, rfl, rfl, ?_, by simp⟩
    rw [List.all_eq_true]
    intro i hi
    rw [List.mem_range] at hi
    have : (List.range ws.length).contains i = true := List.contains_iff_mem.mpr (List.mem_range.mpr (by simpa using hi))
    rw [this, Bool.or_true]
  refine z_go pc [] (List.range ws.length) ws (va_runS (As := As) (rest := rest) X.1 (hM H.size) ⟨callB_of n ht (zM_good hMS.1) rfl rfl rfl (ht _ hMS.2.1) (ht _ hlink) hMS.2.2.1 hR, ht _ hMS.2.2.2⟩ ⟨zMx_blind, fun U hU hW => ⟨rfl, zB_of X hw hZ.1 hZ.2.2.1 hU hW, ?_, ?_⟩⟩ rfl hn hl.1 rfl (lv_room hrest) d ⟨hcs.1, hcs.2⟩) hw hZ.1 hZ.2.1 hZ.2.2.1 hZ.2.2.2 kk
  · rw [hU]
    exact (va_X.moved hW.alike hS.1).kept (hw.2.2.1.2.1 b hS.2.1 hS.2.2)
  · exact Nat.lt_of_lt_of_le hS.2.1 hw.2.2.1.1
theorem z_bodyx {y : MethodName} {maxL fr lo : Nat} {av : List Value} {res : Option Value} (hy : plainName y.cls = true) (hav : (lg_sl av).length ≤ maxL)
    (body : ∀ (p : Program) (e : Env) (s : State) (m : MethodId) (args : Array Value) (below : List Frame) (meth : Method) (c : Code) (ls : Array Slot) (H : Heap) (locs : List Loc) (A : Nat → Prop), zX D cA p s m args meth c cc maxL y.cls ret → (va_X b L xs s s.heap ∧ b < s.heap.size ∧ ¬ A b) → lv_has ls maxL (lv_args 0 av) → zH D A s [] H locs → W p l e (zR fr lo) s m args below meth c H locs 0 0 (MQ below (zQ D [] res A) args s 0 0 A) (F0 m 0 ls [])) : zMx l D cA y cc maxL ret fr lo av b L xs res := by
  intro sz
  refine Met.ofW (cc := cc) (maxL := maxL) (ret := ret) hy rfl ?_
  intro p e s m args below meth c s₁ B hml hv
  obtain ⟨rfl, ⟨hsz, hP, hK, hN, hD0⟩, hX, hb⟩ := hv
  have hts := atoms_spec (ws := .code y cc maxL ret :: wsG) B.pre
  have hown : s.vm.findClass y.cls = some m.cls := findClass_of_methodNamed B.named
  subst hsz
  rw [lg_entry_eq]
  have hl := lv_entry av (n := maxL) hav
  refine body p e s m _ below meth c _ s.heap [] (va_A [] s.heap.size) ⟨⟨B.exec, B.bytes, hml, hown, fun w h => hts w (List.mem_cons_of_mem _ h)⟩, hK, hN, B.notSynchronized, B.returns⟩ ⟨hX, hb, fun h => ?_⟩ hl ⟨hP, hD0.self, va_S.rf, fun q h => Or.inr h⟩
  rcases h with ⟨k, e, h⟩ | h
  · simp at h
  · omega
end ZX
