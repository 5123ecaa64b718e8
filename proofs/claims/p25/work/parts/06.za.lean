-- makers: new objects, new arrays, constructors with cells of their own making
section ZA
variable {p : Program} {l : Launch} {e : Env} {R : Room} {s : State} {m : MethodId} {args : Array Value} {below : List Frame} {meth : Method} {c : Code} {H : Heap} {locs : List Loc} {cells slots : Nat} {Q : State → Prop}
variable {D : va_G} {cA : ClassId} {cc : ByteArray} {nL : Nat} {own : String} {ret : Option FieldType} {ls : Array Slot} {lv lv' : List (Nat × Value)} {rest : List Value} {A : Nat → Prop} {ws : va_W}
def zRI (fr lo mc ms : Nat) : Room := { frames := fr, cells := mc, slots := ms, locals := lo }
def zQI (D : va_G) (w' : (Nat → Nat) → va_W) (A : Nat → Prop) : Array Value → State → Outcome → State → Prop := fun _ st oc t => oc = .returned none ∧ (∃ as : Nat → Nat, va_P D vwCl (w' as) t.heap ∧ va_D A (w' as)) ∧ va_F A st t
def zMI (l : Launch) (D : va_G) (cA : ClassId) (y : MethodName) (cc : ByteArray) (maxL : Nat) (fr lo mc ms : Nat) (av : List Value) (w : va_W) (w' : (Nat → Nat) → va_W) : Prop :=
  ∀ sz, Met l y (.code y cc maxL none :: wsG) (zRI fr lo mc ms) (va_Pc av (zB D cA w sz)) (zQI D w' (va_A w sz)) mc ms (va_A w sz)
def zMC (y : MethodName) (cc : ByteArray) (maxL : Nat) (n : Nat) : Prop := Cond.code y cc maxL none ∈ wsG ∧ Cond.initialized y.cls ∈ wsG ∧ (y.cls ≠ "java/lang/invoke/MethodHandle" ∧ y.cls ≠ "java/lang/invoke/VarHandle" ∧ (parseMethodDescriptor y.desc).map (fun d => d.parameters.length) = some n) ∧ Cond.instanceMethod y ∈ wsG ∧ y.name = "<init>"
theorem z_new (pc : Nat) {C : String} {T : u_T} {N ci ix : Nat} {ty : Nat → FieldType} (hC : zCl ci C T N ty) (hcl : Cond.classLink own ix C ∈ wsG) (hin : Cond.instantiable C N ∈ wsG ∧ Cond.initialized C ∈ wsG) (fs : List Value) (X : zX D cA p s m args meth c cc nL own ret) (d : decode cc pc = .ok (.new ix, 3)) (hw : zH D A s ws H locs) (hfs : ∀ j, j < N → defaultValue (ty j) = vp_V fs j) (hcs : cells + 1 ≤ R.cells ∧ slots + N ≤ R.slots)
    (kk : ∀ (q : Nat) (H : Heap), zH D A s (ws ++ [(q, .inr (ci, fs))]) H locs → W p l e R s m args below meth c H locs (cells + 1) (slots + N) Q (F0 m (pc + 3) ls (.ref q :: rest))) : W p l e R s m args below meth c H locs cells slots Q (F0 m pc ls rest) :=
  va_new X.1.1 X.1.2.1 X.1.2.2.2.2 hC.2.1 ty hC.2.2.1 X.1.2.2.2.1 (X.1.2.2.2.2 _ hcl) (X.1.2.2.2.2 _ hin.1) (X.1.2.2.2.2 _ hin.2) X.2.1 hw.1 hw.2.1 hw.2.2.1 hw.2.2.2 hC.1 hfs hcs.1 hcs.2 d (fun q H1 h1 h2 h3 => kk q H1 ⟨h1, h2, h3, hw.2.2.2⟩)
theorem z_newa (pc : Nat) {n : Int32} (N : Nat) (harr : Cond.arrayClass .int ∈ wsG) (X : zX D cA p s m args meth c cc nL own ret) (d : decode cc pc = .ok (.newarray .int, 2)) (hw : zH D A s ws H locs) (hn : ¬ n < 0) (hN : n.toNatClampNeg = N) (hb : N * componentBytes .int ≤ 536870912) (hcs : cells + 1 ≤ R.cells ∧ slots + N ≤ R.slots)
    (kk : ∀ (q : Nat) (H : Heap), zH D A s (ws ++ [(q, .inl (cA, N, .inl (fun _ => 0)))]) H locs → W p l e R s m args below meth c H locs (cells + 1) (slots + N) Q (F0 m (pc + 2) ls (.ref q :: rest))) : W p l e R s m args below meth c H locs cells slots Q (F0 m pc ls (.int n :: rest)) := by
  refine va_newa (atype := .int) (ty := .int) (a0 := (N, .inl (fun _ => 0))) X.1.1 X.1.2.1 (X.1.2.2.2.2 _ harr) rfl X.2.1 hw.1 hw.2.1 hw.2.2.1 hw.2.2.2 (fun _ => rfl) hn hN hb hcs.1 hcs.2 d (fun q cB H1 h0 h1 h2 h3 => ?_)
  have e1 : s.vm.findClass ("[" ++ (FieldType.int).toString) = some cA := (X.2.1.2 0 (cA, .int) rfl).2
  have e2 : s.vm.findClass ("[" ++ (FieldType.int).toString) = some cB := (h0.2 1 (cB, .int) rfl).2
  have e3 : cB = cA := Option.some.inj (e2.symm.trans e1)
  subst e3
  exact kk q H1 ⟨h1, h2, h3, hw.2.2.2⟩
theorem z_putF (pc : Nat) {a : Nat} {C : String} {T : u_T} {N ci ix : Nat} {ty : Nat → FieldType} {fs : List Value} {v : Value} (hC : zCl ci C T N ty) (q0 k : Nat) (ws' : va_W) (hlink : Cond.fieldLink own ix (T k).1 (T k).2.1 (T k).2.2.1 ∈ wsG) (hin : meth.name = "<init>") (X : zX D cA p s m args meth c cc nL own ret) (d : decode cc pc = .ok (.putfield ix, 3)) (hw : zH D A s ws H locs) (he : ws[q0]? = some (a, .inr (ci, fs))) (hk : k < N) (hfin : (T k).2.2.2 = true) (hdecl : (T k).1 = own) (hn : narrow (ty k) v = v) (hfit : fits (ty k) v = true) (hlen : k < fs.length) (hws : ws.set q0 (a, .inr (ci, fs.set k v)) = ws') (kk : ∀ (H : Heap) (locs : List Loc), zH D A s ws' H locs → W p l e R s m args below meth c H locs cells slots Q (F0 m (pc + 3) ls rest)) : W p l e R s m args below meth c H locs cells slots Q (F0 m pc ls (v :: .ref a :: rest)) := by
  subst hws
  exact va_putF X.1.1 X.1.2.1 X.1.2.2.2.2 hC.2.1 ty hC.2.2.1 hC.2.2.2 X.1.2.2.2.1 X.2.1 hw.1 hw.2.1 hw.2.2.1 q0 he hC.1 k hk (X.1.2.2.2.2 _ hlink) (fun _ h => h) hfin hin hdecl (hC.2.2.1 k hk) hn hfit hlen d (fun H1 locs1 h1 h2 h3 => kk H1 locs1 ⟨h1, h2, h3, hw.2.2.2⟩)
theorem z_obj (pc : Nat) {ix a : Nat} (hlink : Cond.methodLink own ix Lib.objectInit ∈ wsG) (ho : Cond.instanceMethod Lib.objectInit ∈ wsG ∧ Cond.code Lib.objectInit ⟨#[0xb1]⟩ 1 none ∈ wsG) (X : zX D cA p s m args meth c cc nL own ret) (d : decode cc pc = .ok (.invokespecial ix, 3)) (hl : lv_has ls nL lv) (hR : 1 ≤ R.frames ∧ 2 * (F0 m pc ls rest).monitorRoom + (rest.map fun v => v.category).sum + 12 ≤ R.locals) (kk : W p l e R s m args below meth c H locs cells slots Q (F0 m (pc + 3) ls rest)) : W p l e R s m args below meth c H locs cells slots Q (F0 m pc ls (.ref a :: rest)) :=
  W.objInit X.1.1 X.1.2.1 X.1.2.2.2.1 (X.1.2.2.2.2 _ hlink) (X.1.2.2.2.2 _ ho.1) (X.1.2.2.2.2 _ ho.2) rfl (by rw [X.1.2.2.1]; exact hl.1) rfl d hR.1 hR.2 kk
theorem z_goI (pc : Nat) {wc wr : va_W} {w' : (Nat → Nat) → va_W} {st : List Value} {mc ms : Nat} {a : Array Value} (isC isR : List Nat) (hr : va_Run p l e R s m args below meth c H locs cells slots mc ms (F0 m pc ls st) rest (zQI D w' (va_A wc H.size) a) (va_A wc H.size)) (hw : zH D A s ws H locs) (hC : isC.map (fun i => ws[i]?) = wc.map some) (hR : isR.map (fun i => ws[i]?) = wr.map some) (hn : va_nd isR = true) (hdis : ∀ i ∈ isR, i ∉ isC)
    (kk : ∀ (as : Nat → Nat) (H : Heap) (locs : List Loc), zH D A s (wr ++ w' as) H locs → W p l e R s m args below meth c H locs (cells + mc) (slots + ms) Q (F0 m (pc + 3) ls rest)) : W p l e R s m args below meth c H locs cells slots Q (F0 m pc ls st) := by
  intro T hT X
  obtain ⟨v, st₀, t, T', L, h0, X', hL, e1, e2, ⟨hv, ⟨as, hP1, hD1⟩, hz, hk⟩, hst⟩ := hr T hT X
  cases hv
  rw [h0] at hz hk
  obtain ⟨hP, hD, hS, hA⟩ := hw
  have hF : ∀ q, va_A wc H.size q → A q := va_free hD hS hA isC hC
  obtain ⟨hP2, hD2⟩ := va_join hP hD isC isR hC hR hn hdis hk hF hP1 hD1
  obtain ⟨t2, a1, b1⟩ := kk as T'.heap (locs ++ L) ⟨by rw [e1]; exact hP2, hD2, ⟨Nat.le_trans hS.1 (by rw [e1]; exact hz), fun q h1 h2 => by rw [e1, hk q (Nat.lt_of_lt_of_le h1 hS.1) (fun z => h2 (hF q z))]; exact hS.2.1 q h1 h2, fun q hq => by
      rcases List.mem_append.mp hq with h | h
      · exact hS.2.2 q h
      · exact hF _ (hL q h)⟩, hA⟩ T' rfl X'
  exact ⟨t2, hst t2 a1, b1⟩
theorem z_callI (pc : Nat) {n ix b : Nat} {y : MethodName} {bc : ByteArray} {maxL fr lo mc ms : Nat} {As st : List Value} {wc : va_W} {w' : (Nat → Nat) → va_W} (hMC : zMC y bc maxL n) (hlink : Cond.methodLink own ix y ∈ wsG) (isC isR : List Nat) (rest : List Value) (wr : va_W) (hM : zMI l D cA y bc maxL fr lo mc ms (.ref b :: As) wc w') (X : zX D cA p s m args meth c cc nL own ret) (d : decode cc pc = .ok (.invokespecial ix, 3)) (hw : zH D A s ws H locs) (hl : lv_has ls nL lv) (hCC : isC.map (fun i => ws[i]?) = wc.map some) (hRR : isR.map (fun i => ws[i]?) = wr.map some) (hnd : va_nd isC = true) (hnr : va_nd isR = true) (hdis : ∀ i ∈ isR, i ∉ isC)
    (hn : As.length = n) (hst : st = As.reverse ++ .ref b :: rest) (hrest : (rest.map fun v => v.category).sum ≤ 8) (hR : fr + 1 ≤ R.frames ∧ 8 + (maxL + 11) + lo ≤ R.locals) (hcs : cells + mc ≤ R.cells ∧ slots + ms ≤ R.slots)
    (kk : ∀ (as : Nat → Nat) (H : Heap) (locs : List Loc), zH D A s (wr ++ w' as) H locs → W p l e R s m args below meth c H locs (cells + mc) (slots + ms) Q (F0 m (pc + 3) ls rest)) : W p l e R s m args below meth c H locs cells slots Q (F0 m pc ls st) := by
  subst hst
  have ht := X.1.2.2.2.2
  exact z_goI pc isC isR (va_runI (As := As) (rest := rest) X.1 (hM H.size) ⟨callB_of n ht (zM_good hMC.1) rfl rfl rfl (ht _ hMC.2.1) (ht _ hlink) hMC.2.2.1 hR, hMC.2.2.2.2, ht _ hMC.2.2.2.1⟩ ⟨zM_blind, fun U hU hW => ⟨rfl, zB_of X hw hCC hnd hU hW⟩⟩ rfl hn hl.1 rfl (lv_room hrest) d ⟨hcs.1, hcs.2⟩) hw hCC hRR hnr hdis kk
theorem z_callIN (pc : Nat) {host : String} {n ix b : Nat} {y : MethodName} {bc : ByteArray} {maxL fr lo mc ms : Nat} {As st : List Value} {wc : va_W} {w' : (Nat → Nat) → va_W} (hMC : zMC y bc maxL n) (hlink : Cond.methodLinkNest own ix y host ∈ wsN) (isC isR : List Nat) (rest : List Value) (wr : va_W) (hM : zMI l D cA y bc maxL fr lo mc ms (.ref b :: As) wc w') (X : zX D cA p s m args meth c cc nL own ret) (d : decode cc pc = .ok (.invokespecial ix, 3)) (hw : zH D A s ws H locs) (hl : lv_has ls nL lv) (hCC : isC.map (fun i => ws[i]?) = wc.map some) (hRR : isR.map (fun i => ws[i]?) = wr.map some) (hnd : va_nd isC = true) (hnr : va_nd isR = true) (hdis : ∀ i ∈ isR, i ∉ isC)
    (hn : As.length = n) (hst : st = As.reverse ++ .ref b :: rest) (hrest : (rest.map fun v => v.category).sum ≤ 8) (hR : fr + 1 ≤ R.frames ∧ 8 + (maxL + 11) + lo ≤ R.locals) (hcs : cells + mc ≤ R.cells ∧ slots + ms ≤ R.slots)
    (kk : ∀ (as : Nat → Nat) (H : Heap) (locs : List Loc), zH D A s (wr ++ w' as) H locs → W p l e R s m args below meth c H locs (cells + mc) (slots + ms) Q (F0 m (pc + 3) ls rest)) : W p l e R s m args below meth c H locs cells slots Q (F0 m pc ls st) := by
  subst hst
  have ht := X.1.2.2.2.2
  exact z_goI pc isC isR (va_runIN (As := As) (rest := rest) X.1 (hM H.size) ⟨va_cnB n ht (zM_good hMC.1) rfl rfl rfl (X.2.2.1 _ hlink) (ht _ hMC.2.1) hMC.2.2.1 hR, hMC.2.2.2.2, ht _ hMC.2.2.2.1⟩ ⟨zM_blind, fun U hU hW => ⟨rfl, zB_of X hw hCC hnd hU hW⟩⟩ rfl hn hl.1 rfl (lv_room hrest) d ⟨hcs.1, hcs.2⟩) hw hCC hRR hnr hdis kk
/-- a constructor's walk -/
theorem z_bodyI {y : MethodName} {maxL fr lo mc ms : Nat} {av : List Value} {w : va_W} {w' : (Nat → Nat) → va_W} (hy : plainName y.cls = true) (hyn : y.name = "<init>") (hav : (lg_sl av).length ≤ maxL)
    (body : ∀ (p : Program) (e : Env) (s : State) (m : MethodId) (args : Array Value) (below : List Frame) (meth : Method) (c : Code) (ls : Array Slot) (H : Heap) (locs : List Loc) (A : Nat → Prop), meth.name = "<init>" → zX D cA p s m args meth c cc maxL y.cls none → lv_has ls maxL (lv_args 0 av) → zH D A s w H locs → W p l e (zRI fr lo mc ms) s m args below meth c H locs 0 0 (MQ below (zQI D w' A) args s mc ms A) (F0 m 0 ls [])) : zMI l D cA y cc maxL fr lo mc ms av w w' := by
  intro sz
  refine Met.ofW (cc := cc) (maxL := maxL) (ret := none) hy rfl ?_
  intro p e s m args below meth c s₁ B hml hv
  obtain ⟨rfl, hsz, hP, hK, hN, hD0⟩ := hv
  have hts := atoms_spec (ws := .code y cc maxL none :: wsG) B.pre
  have hown : s.vm.findClass y.cls = some m.cls := findClass_of_methodNamed B.named
  have hin : meth.name = "<init>" := (name_of_methodNamed B.named B.method).1.trans hyn
  subst hsz
  rw [lg_entry_eq]
  have hl := lv_entry av (n := maxL) hav
  exact body p e s m _ below meth c _ s.heap [] (va_A w s.heap.size) hin ⟨⟨B.exec, B.bytes, hml, hown, fun w h => hts w (List.mem_cons_of_mem _ h)⟩, hK, hN, B.notSynchronized, B.returns⟩ hl ⟨hP, hD0.self, va_S.rf, fun q h => Or.inr h⟩
theorem z_vretI (pc : Nat) {w' : (Nat → Nat) → va_W} {mc ms : Nat} (as : Nat → Nat) (X : zX D cA p s m args meth c cc nL own none) (d : decode cc pc = .ok (.return_, 1)) (hw : zH D A s ws H locs) (hc : cells = mc) (hs : slots = ms) (hws : ws = w' as) : W p l e R s m args below meth c H locs cells slots (MQ below (zQI D w' A) args s mc ms A) (F0 m pc ls []) := by
  subst hws
  subst hc
  subst hs
  exact W.vret X.1.1 X.1.2.1 X.2.2.2.2 (fun t ht hW => ⟨rfl, ⟨as, by rw [ht]; exact hw.1, hw.2.1⟩, hw.2.2.1.F ht⟩) hw.2.2.1.2.2 d X.2.2.2.1
end ZA
