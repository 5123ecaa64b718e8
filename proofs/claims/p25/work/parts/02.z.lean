-- THE Z LAYER: rows of the kit in one packed form: one word list, worlds of a fixed order, contracts with one answer
def wsG : List Cond := lw_tbl.filter goodWord
theorem wsG_mem {w : Cond} (h : w ∈ lw_tbl) (g : goodWord w = true) : w ∈ wsG := List.mem_filter.mpr ⟨h, g⟩
theorem wsG_tbl : ∀ w ∈ wsG, w ∈ lw_tbl := fun _ h => (List.mem_filter.mp h).1
theorem wsG_good : ∀ w ∈ wsG, goodWord w = true := fun _ h => (List.mem_filter.mp h).2
theorem zt0 {w : Cond} (h : w ∈ k2_sels lw_privs) : w ∈ lw_tbl := List.mem_append_left _ h
theorem zt1 {w : Cond} (h : w ∈ tables_1_1) : w ∈ lw_tbl := List.mem_append_right _ (List.mem_append_left _ h)
theorem zt2 {w : Cond} (h : w ∈ tables_1_2) : w ∈ lw_tbl := List.mem_append_right _ (List.mem_append_right _ (List.mem_append_left _ h))
theorem zt3 {w : Cond} (h : w ∈ tables_1_3) : w ∈ lw_tbl := List.mem_append_right _ (List.mem_append_right _ (List.mem_append_right _ h))
/-- the words of nest mates: they stay, but aren't of the steady kind -/
def zIsN : Cond → Bool
  | .fieldLinkNest _ _ _ _ _ _ => true
  | .methodLinkNest _ _ _ _ => true
  | _ => false
def wsN : List Cond := lw_tbl.filter zIsN
theorem wsN_mem {w : Cond} (h : w ∈ lw_tbl) (g : zIsN w = true) : w ∈ wsN := List.mem_filter.mpr ⟨h, g⟩
def zN (U : State) : Prop := ∀ w ∈ wsN, va_Nw w U
theorem zN_warm {s U : State} (hW : s.WarmedH U.vm) (h : zN s) : zN U := by
  intro w hw
  have h1 := (List.mem_filter.mp hw).2
  have h2 := h w hw
  cases w <;> first | exact Bool.noConfusion (show false = true from h1) | exact va_Nw.warmF hW h2 | exact va_Nw.warmM hW h2
theorem zN_calling {U : State} {g : JFrame} {mk : MethodId} {a : Array Value} (h : zN U) : zN (U.calling g mk a) := by
  intro w hw
  have h1 := (List.mem_filter.mp hw).2
  refine va_Nw.same (u := U) ?_ rfl (h w hw)
  cases w <;> first | exact Bool.noConfusion (show false = true from h1) | rfl
abbrev Ar : Type := Nat → Int32
def zX (D : va_G) (cA : ClassId) (p : Program) (s : State) (m : MethodId) (args : Array Value) (meth : Method) (c : Code) (cc : ByteArray) (nL : Nat) (own : String) (ret : Option FieldType) : Prop :=
  CallFix p m c cc nL s args wsG own ∧ va_K D vwCl [(cA, .int)] s ∧ zN s ∧ meth.locks = false ∧ meth.sig.returnType = ret
def zH (D : va_G) (A : Nat → Prop) (s : State) (ws : va_W) (H : Heap) (locs : List Loc) : Prop := va_P D vwCl ws H ∧ va_D A ws ∧ va_S A s.heap H locs ∧ ∀ q : Nat, s.heap.size ≤ q → A q
def zQ (D : va_G) (w' : va_W) (res : Option Value) (A : Nat → Prop) : Array Value → State → Outcome → State → Prop := fun _ st oc t => oc = .returned res ∧ va_P D vwCl w' t.heap ∧ va_F A st t
def zB (D : va_G) (cA : ClassId) (w : va_W) (sz : Nat) : State → Prop := fun U => U.heap.size = sz ∧ va_P D vwCl w U.heap ∧ va_K D vwCl [(cA, .int)] U ∧ zN U ∧ va_D (fun _ => True) w
def zR (fr lo : Nat) : Room := { frames := fr, cells := 0, slots := 0, locals := lo }
def zM (l : Launch) (D : va_G) (cA : ClassId) (y : MethodName) (cc : ByteArray) (maxL : Nat) (ret : Option FieldType) (fr lo : Nat) (av : List Value) (w w' : va_W) (res : Option Value) : Prop :=
  ∀ sz, Met l y (.code y cc maxL ret :: wsG) (zR fr lo) (va_Pc av (zB D cA w sz)) (zQ D w' res (va_A w sz)) 0 0 (va_A w sz)
/-- the same cells' places filled anew -/
def zput (ws : va_W) : List Nat → va_W → va_W
  | i :: is, q :: qs => zput (ws.set i q) is qs
  | _, _ => ws
theorem zput_get : ∀ (is : List Nat) (qs ws : va_W), qs.length = is.length → va_nd is = true → (∀ i ∈ is, i < ws.length) → ∀ (k : Nat) (q : Nat × va_E), (zput ws is qs)[k]? = some q → (∃ j : Nat, is[j]? = some k ∧ qs[j]? = some q) ∨ (k ∉ is ∧ ws[k]? = some q) := by
  intro is
  induction is with
  | nil => intro qs ws hl hn hb k q h; cases qs <;> exact Or.inr ⟨List.not_mem_nil, h⟩
  | cons i is ih =>
    intro qs ws hl hn hb k q h
    cases qs with
    | nil => cases hl
    | cons x qs =>
      have hn2 : i ∉ is ∧ va_nd is = true := by
        simpa [va_nd] using hn
      rcases ih qs (ws.set i x) (Nat.succ.inj hl) hn2.2 (fun j hj => by rw [List.length_set]; exact hb j (List.mem_cons_of_mem _ hj)) k q h with ⟨j, h1, h2⟩ | ⟨h1, h2⟩
      · exact Or.inl ⟨j + 1, h1, h2⟩
      · by_cases e : i = k
        · subst e
          rw [List.getElem?_set_self (hb i List.mem_cons_self)] at h2
          cases h2
          exact Or.inl ⟨0, rfl, rfl⟩
        · rw [List.getElem?_set_ne e] at h2
          exact Or.inr ⟨fun h3 => (List.mem_cons.mp h3).elim (fun h4 => e h4.symm) h1, h2⟩
theorem zput_fst : ∀ (is : List Nat) (qs ws : va_W), (∀ (j i : Nat) (q : Nat × va_E), is[j]? = some i → qs[j]? = some q → (ws.map Prod.fst)[i]? = some q.1) → (zput ws is qs).map Prod.fst = ws.map Prod.fst := by
  intro is
  induction is with
  | nil => intro qs ws h; cases qs <;> rfl
  | cons i is ih =>
    intro qs ws h
    cases qs with
    | nil => rfl
    | cons x qs =>
      have e : (ws.set i x).map Prod.fst = ws.map Prod.fst := by
        rw [List.map_set]
        refine List.ext_getElem? (fun j => ?_)
        by_cases ej : i = j
        · subst ej
          have h0 := h 0 i x rfl rfl
          rw [h0]
          rw [List.getElem?_set_self]
          exact (List.getElem?_eq_some_iff.mp h0).1
        · rw [List.getElem?_set_ne ej]
      show (zput (ws.set i x) is qs).map Prod.fst = _
      rw [ih qs (ws.set i x) (fun j k q h1 h2 => by rw [e]; exact h (j + 1) k q h1 h2), e]
theorem zD_fst {A : Nat → Prop} {ws ws' : va_W} (h : va_D A ws) (e : ws'.map Prod.fst = ws.map Prod.fst) : va_D A ws' := by
  have key : ∀ (k : Nat) (q : Nat × va_E), ws'[k]? = some q → ∃ x : Nat × va_E, ws[k]? = some x ∧ x.1 = q.1 := by
    intro k q hq
    have h1 : (ws.map Prod.fst)[k]? = some q.1 := by rw [← e, List.getElem?_map, hq]; rfl
    rw [List.getElem?_map] at h1
    cases hk : ws[k]? with
    | none => rw [hk] at h1; cases h1
    | some x => rw [hk] at h1; exact ⟨x, rfl, Option.some.inj h1⟩
  refine ⟨fun i j a b ha hb hab => ?_, fun k q hq => ?_⟩
  · obtain ⟨x, h1, h2⟩ := key i a ha
    obtain ⟨y, h3, h4⟩ := key j b hb
    exact h.1 i j x y h1 h3 (by rw [h2, h4, hab])
  · obtain ⟨x, h1, h2⟩ := key k q hq
    rw [← h2]
    exact h.2 k x h1
theorem zpos {c : Prop} [Decidable c] {α : Type} {a b o : α} (h : c) (e : (if c then a else b) = o) : a = o := by rw [if_pos h] at e; exact e
theorem zneg {c : Prop} [Decidable c] {α : Type} {a b o : α} (h : ¬ c) (e : (if c then a else b) = o) : b = o := by rw [if_neg h] at e; exact e
theorem zgd {c : Prop} [Decidable c] {α : Type} {a : Option α} {o : α} (e : (if c then a else none) = some o) : c ∧ a = some o := by
  by_cases h : c
  · rw [if_pos h] at e; exact ⟨h, e⟩
  · rw [if_neg h] at e; cases e
theorem zbd {α β : Type} {x : Option α} {f : α → Option β} {o : β} (e : Option.bind x f = some o) : ∃ u, x = some u ∧ f u = some o := Option.bind_eq_some_iff.mp e
section ZV
variable {p : Program} {l : Launch} {e : Env} {R : Room} {s : State} {m : MethodId} {args : Array Value} {below : List Frame} {meth : Method} {c : Code} {H : Heap} {locs : List Loc} {cells slots : Nat} {Q : State → Prop}
variable {D : va_G} {cA : ClassId} {cc : ByteArray} {nL : Nat} {own : String} {ret : Option FieldType} {ls : Array Slot} {lv lv' : List (Nat × Value)} {rest : List Value} {A : Nat → Prop} {ws : va_W}
theorem z_iconst (pc : Nat) {n : Int} (v : Int32) (X : zX D cA p s m args meth c cc nL own ret) (d : decode cc pc = .ok (.iconst n, 1)) (hv : Int32.ofInt n = v) (kk : W p l e R s m args below meth c H locs cells slots Q (F0 m (pc + 1) ls (.int v :: rest))) : W p l e R s m args below meth c H locs cells slots Q (F0 m pc ls rest) := lv_iconst X.1.1 X.1.2.1 d hv kk
theorem z_bipush (pc : Nat) {n : Int} (v : Int32) (X : zX D cA p s m args meth c cc nL own ret) (d : decode cc pc = .ok (.bipush n, 2)) (hv : (Int8.ofInt n).toInt32 = v) (kk : W p l e R s m args below meth c H locs cells slots Q (F0 m (pc + 2) ls (.int v :: rest))) : W p l e R s m args below meth c H locs cells slots Q (F0 m pc ls rest) := lv_bipush X.1.1 X.1.2.1 d hv kk
theorem z_sipush (pc : Nat) {n : Int} (v : Int32) (X : zX D cA p s m args meth c cc nL own ret) (d : decode cc pc = .ok (.sipush n, 3)) (hv : (Int16.ofInt n).toInt32 = v) (kk : W p l e R s m args below meth c H locs cells slots Q (F0 m (pc + 3) ls (.int v :: rest))) : W p l e R s m args below meth c H locs cells slots Q (F0 m pc ls rest) := lv_sipush X.1.1 X.1.2.1 d hv kk
theorem z_lconst (pc : Nat) {n : Fin 2} (v : Int64) (X : zX D cA p s m args meth c cc nL own ret) (d : decode cc pc = .ok (.lconst n, 1)) (hv : Int64.ofNat (n : Nat) = v) (kk : W p l e R s m args below meth c H locs cells slots Q (F0 m (pc + 1) ls (.long v :: rest))) : W p l e R s m args below meth c H locs cells slots Q (F0 m pc ls rest) := lv_lconst X.1.1 X.1.2.1 d hv kk
theorem z_ldc (pc : Nat) {ix : Nat} (v : Int32) (X : zX D cA p s m args meth c cc nL own ret) (d : decode cc pc = .ok (.ldc ix, 2)) (hw : Cond.constant own ix v ∈ wsG) (kk : W p l e R s m args below meth c H locs cells slots Q (F0 m (pc + 2) ls (.int v :: rest))) : W p l e R s m args below meth c H locs cells slots Q (F0 m pc ls rest) := lv_ldc X.1.1 X.1.2.1 X.1.2.2.2.1 (X.1.2.2.2.2 _ hw) d kk
theorem z_ldc2 (pc : Nat) {ix : Nat} (v : Int64) (X : zX D cA p s m args meth c cc nL own ret) (d : decode cc pc = .ok (.ldc2_w ix, 3)) (hw : Cond.constantLong own ix v ∈ wsG) (kk : W p l e R s m args below meth c H locs cells slots Q (F0 m (pc + 3) ls (.long v :: rest))) : W p l e R s m args below meth c H locs cells slots Q (F0 m pc ls rest) := lv_ldc2 X.1.1 X.1.2.1 X.1.2.2.2.1 (X.1.2.2.2.2 _ hw) d kk
theorem z_iload_n (pc : Nat) {k : Fin 4} {x : Int32} (X : zX D cA p s m args meth c cc nL own ret) (d : decode cc pc = .ok (.iload_n k, 1)) (hl : lv_has ls nL lv) (j : Nat) (hj : lv[j]? = some ((k : Nat), .int x)) (kk : W p l e R s m args below meth c H locs cells slots Q (F0 m (pc + 1) ls (.int x :: rest))) : W p l e R s m args below meth c H locs cells slots Q (F0 m pc ls rest) := lv_iload_n X.1.1 X.1.2.1 d rfl (lv_at hl j hj) kk
theorem z_iload (pc : Nat) {k : Nat} {x : Int32} (X : zX D cA p s m args meth c cc nL own ret) (d : decode cc pc = .ok (.iload k, 2)) (hl : lv_has ls nL lv) (j : Nat) (hj : lv[j]? = some (k, .int x)) (kk : W p l e R s m args below meth c H locs cells slots Q (F0 m (pc + 2) ls (.int x :: rest))) : W p l e R s m args below meth c H locs cells slots Q (F0 m pc ls rest) := lv_iload X.1.1 X.1.2.1 d (lv_at hl j hj) kk
theorem z_lload_n (pc : Nat) {k : Fin 4} {x : Int64} (X : zX D cA p s m args meth c cc nL own ret) (d : decode cc pc = .ok (.lload_n k, 1)) (hl : lv_has ls nL lv) (j : Nat) (hj : lv[j]? = some ((k : Nat), .long x)) (kk : W p l e R s m args below meth c H locs cells slots Q (F0 m (pc + 1) ls (.long x :: rest))) : W p l e R s m args below meth c H locs cells slots Q (F0 m pc ls rest) := lv_lload_n X.1.1 X.1.2.1 d rfl (lv_at hl j hj) kk
theorem z_lload (pc : Nat) {k : Nat} {x : Int64} (X : zX D cA p s m args meth c cc nL own ret) (d : decode cc pc = .ok (.lload k, 2)) (hl : lv_has ls nL lv) (j : Nat) (hj : lv[j]? = some (k, .long x)) (kk : W p l e R s m args below meth c H locs cells slots Q (F0 m (pc + 2) ls (.long x :: rest))) : W p l e R s m args below meth c H locs cells slots Q (F0 m pc ls rest) := lv_lload X.1.1 X.1.2.1 d (lv_at hl j hj) kk
theorem z_aload_n (pc : Nat) {k : Fin 4} {x : Nat} (X : zX D cA p s m args meth c cc nL own ret) (d : decode cc pc = .ok (.aload_n k, 1)) (hl : lv_has ls nL lv) (j : Nat) (hj : lv[j]? = some ((k : Nat), .ref x)) (kk : W p l e R s m args below meth c H locs cells slots Q (F0 m (pc + 1) ls (.ref x :: rest))) : W p l e R s m args below meth c H locs cells slots Q (F0 m pc ls rest) := lv_aload_n X.1.1 X.1.2.1 d rfl (lv_at hl j hj) kk
theorem z_istore_n (pc : Nat) {k : Fin 4} {x : Int32} (lv' : List (Nat × Value)) (X : zX D cA p s m args meth c cc nL own ret) (d : decode cc pc = .ok (.istore_n k, 1)) (hl : lv_has ls nL lv) (hn : (k : Nat) < nL) (hv : ((k : Nat), Value.int x) :: lv.filter (fun q => !(q.1 == (k : Nat)) && !(q.1 + 1 == (k : Nat) && q.2.category == 2)) = lv') (kk : ∀ ls : Array Slot, lv_has ls nL lv' → W p l e R s m args below meth c H locs cells slots Q (F0 m (pc + 1) ls rest)) : W p l e R s m args below meth c H locs cells slots Q (F0 m pc ls (.int x :: rest)) := lv_istore_n X.1.1 X.1.2.1 d rfl hl hn hv kk
theorem z_istore (pc : Nat) {k : Nat} {x : Int32} (lv' : List (Nat × Value)) (X : zX D cA p s m args meth c cc nL own ret) (d : decode cc pc = .ok (.istore k, 2)) (hl : lv_has ls nL lv) (hn : k < nL) (hv : (k, Value.int x) :: lv.filter (fun q => !(q.1 == k) && !(q.1 + 1 == k && q.2.category == 2)) = lv') (kk : ∀ ls : Array Slot, lv_has ls nL lv' → W p l e R s m args below meth c H locs cells slots Q (F0 m (pc + 2) ls rest)) : W p l e R s m args below meth c H locs cells slots Q (F0 m pc ls (.int x :: rest)) := lv_istore X.1.1 X.1.2.1 d hl hn hv kk
theorem z_lstore_n (pc : Nat) {k : Fin 4} {x : Int64} (lv' : List (Nat × Value)) (X : zX D cA p s m args meth c cc nL own ret) (d : decode cc pc = .ok (.lstore_n k, 1)) (hl : lv_has ls nL lv) (hn : (k : Nat) + 1 < nL) (hv : ((k : Nat), Value.long x) :: lv.filter (fun q => !(q.1 == (k : Nat)) && (!(q.1 == (k : Nat) + 1) && !(q.1 + 1 == (k : Nat) && q.2.category == 2))) = lv') (kk : ∀ ls : Array Slot, lv_has ls nL lv' → W p l e R s m args below meth c H locs cells slots Q (F0 m (pc + 1) ls rest)) : W p l e R s m args below meth c H locs cells slots Q (F0 m pc ls (.long x :: rest)) := lv_lstore_n X.1.1 X.1.2.1 d rfl hl hn hv kk
theorem z_lstore (pc : Nat) {k : Nat} {x : Int64} (lv' : List (Nat × Value)) (X : zX D cA p s m args meth c cc nL own ret) (d : decode cc pc = .ok (.lstore k, 2)) (hl : lv_has ls nL lv) (hn : k + 1 < nL) (hv : (k, Value.long x) :: lv.filter (fun q => !(q.1 == k) && (!(q.1 == k + 1) && !(q.1 + 1 == k && q.2.category == 2))) = lv') (kk : ∀ ls : Array Slot, lv_has ls nL lv' → W p l e R s m args below meth c H locs cells slots Q (F0 m (pc + 2) ls rest)) : W p l e R s m args below meth c H locs cells slots Q (F0 m pc ls (.long x :: rest)) := lv_lstore X.1.1 X.1.2.1 d hl hn hv kk
theorem z_iinc (pc : Nat) {k : Nat} {n : Int} {x : Int32} (v : Int32) (lv' : List (Nat × Value)) (X : zX D cA p s m args meth c cc nL own ret) (d : decode cc pc = .ok (.iinc k n, 3)) (hl : lv_has ls nL lv) (j : Nat) (hj : lv[j]? = some (k, .int x)) (hv : x + Int32.ofInt n = v) (hn : k < nL) (hv' : (k, Value.int v) :: lv.filter (fun q => !(q.1 == k) && !(q.1 + 1 == k && q.2.category == 2)) = lv') (kk : ∀ ls : Array Slot, lv_has ls nL lv' → W p l e R s m args below meth c H locs cells slots Q (F0 m (pc + 3) ls rest)) : W p l e R s m args below meth c H locs cells slots Q (F0 m pc ls rest) := lv_iinc X.1.1 X.1.2.1 d hl hj hv hn hv' kk
theorem z_iinc2 (pc : Nat) {k : Nat} {n : Int} {x : Int32} (w : Int32) (lv' : List (Nat × Value)) (X : zX D cA p s m args meth c cc nL own ret) (d : decode cc pc = .ok (.iinc k n, 3)) (hl : lv_has ls nL lv) (j : Nat) (hj : lv[j]? = some (k, .int x)) (hv : Int32.ofInt n = w) (hn : k < nL) (hv' : (k, Value.int (x + w)) :: lv.filter (fun q => !(q.1 == k) && !(q.1 + 1 == k && q.2.category == 2)) = lv') (kk : ∀ ls : Array Slot, lv_has ls nL lv' → W p l e R s m args below meth c H locs cells slots Q (F0 m (pc + 3) ls rest)) : W p l e R s m args below meth c H locs cells slots Q (F0 m pc ls rest) := lv_iinc X.1.1 X.1.2.1 d hl hj (congrArg (x + ·) hv) hn hv' kk
theorem z_iadd (pc : Nat) {x y : Int32} (X : zX D cA p s m args meth c cc nL own ret) (d : decode cc pc = .ok (.iadd, 1)) (kk : W p l e R s m args below meth c H locs cells slots Q (F0 m (pc + 1) ls (.int (x + y) :: rest))) : W p l e R s m args below meth c H locs cells slots Q (F0 m pc ls (.int y :: .int x :: rest)) := lv_iadd X.1.1 X.1.2.1 d kk
theorem z_isub (pc : Nat) {x y : Int32} (X : zX D cA p s m args meth c cc nL own ret) (d : decode cc pc = .ok (.isub, 1)) (kk : W p l e R s m args below meth c H locs cells slots Q (F0 m (pc + 1) ls (.int (x - y) :: rest))) : W p l e R s m args below meth c H locs cells slots Q (F0 m pc ls (.int y :: .int x :: rest)) := lv_isub X.1.1 X.1.2.1 d kk
theorem z_imul (pc : Nat) {x y : Int32} (X : zX D cA p s m args meth c cc nL own ret) (d : decode cc pc = .ok (.imul, 1)) (kk : W p l e R s m args below meth c H locs cells slots Q (F0 m (pc + 1) ls (.int (x * y) :: rest))) : W p l e R s m args below meth c H locs cells slots Q (F0 m pc ls (.int y :: .int x :: rest)) := lv_imul X.1.1 X.1.2.1 d kk
theorem z_idiv (pc : Nat) {x y : Int32} (X : zX D cA p s m args meth c cc nL own ret) (d : decode cc pc = .ok (.idiv, 1)) (hne : ¬ y = 0) (kk : W p l e R s m args below meth c H locs cells slots Q (F0 m (pc + 1) ls (.int (x / y) :: rest))) : W p l e R s m args below meth c H locs cells slots Q (F0 m pc ls (.int y :: .int x :: rest)) := lv_idiv X.1.1 X.1.2.1 d hne kk
theorem z_irem (pc : Nat) {x y : Int32} (X : zX D cA p s m args meth c cc nL own ret) (d : decode cc pc = .ok (.irem, 1)) (hne : ¬ y = 0) (kk : W p l e R s m args below meth c H locs cells slots Q (F0 m (pc + 1) ls (.int (x - x / y * y) :: rest))) : W p l e R s m args below meth c H locs cells slots Q (F0 m pc ls (.int y :: .int x :: rest)) := lv_irem X.1.1 X.1.2.1 d hne kk
theorem z_iand (pc : Nat) {x y : Int32} (X : zX D cA p s m args meth c cc nL own ret) (d : decode cc pc = .ok (.iand, 1)) (kk : W p l e R s m args below meth c H locs cells slots Q (F0 m (pc + 1) ls (.int (x &&& y) :: rest))) : W p l e R s m args below meth c H locs cells slots Q (F0 m pc ls (.int y :: .int x :: rest)) := lv_iand X.1.1 X.1.2.1 d kk
theorem z_ishl (pc : Nat) {x y : Int32} (X : zX D cA p s m args meth c cc nL own ret) (d : decode cc pc = .ok (.ishl, 1)) (kk : W p l e R s m args below meth c H locs cells slots Q (F0 m (pc + 1) ls (.int (x <<< (y &&& 31)) :: rest))) : W p l e R s m args below meth c H locs cells slots Q (F0 m pc ls (.int y :: .int x :: rest)) := lv_ishl X.1.1 X.1.2.1 d kk
theorem z_ishr (pc : Nat) {x y : Int32} (X : zX D cA p s m args meth c cc nL own ret) (d : decode cc pc = .ok (.ishr, 1)) (kk : W p l e R s m args below meth c H locs cells slots Q (F0 m (pc + 1) ls (.int (x >>> (y &&& 31)) :: rest))) : W p l e R s m args below meth c H locs cells slots Q (F0 m pc ls (.int y :: .int x :: rest)) := lv_ishr X.1.1 X.1.2.1 d kk
theorem z_ladd (pc : Nat) {x y : Int64} (X : zX D cA p s m args meth c cc nL own ret) (d : decode cc pc = .ok (.ladd, 1)) (kk : W p l e R s m args below meth c H locs cells slots Q (F0 m (pc + 1) ls (.long (x + y) :: rest))) : W p l e R s m args below meth c H locs cells slots Q (F0 m pc ls (.long y :: .long x :: rest)) := lv_ladd X.1.1 X.1.2.1 d kk
theorem z_lsub (pc : Nat) {x y : Int64} (X : zX D cA p s m args meth c cc nL own ret) (d : decode cc pc = .ok (.lsub, 1)) (kk : W p l e R s m args below meth c H locs cells slots Q (F0 m (pc + 1) ls (.long (x - y) :: rest))) : W p l e R s m args below meth c H locs cells slots Q (F0 m pc ls (.long y :: .long x :: rest)) := lv_lsub X.1.1 X.1.2.1 d kk
theorem z_lmul (pc : Nat) {x y : Int64} (X : zX D cA p s m args meth c cc nL own ret) (d : decode cc pc = .ok (.lmul, 1)) (kk : W p l e R s m args below meth c H locs cells slots Q (F0 m (pc + 1) ls (.long (x * y) :: rest))) : W p l e R s m args below meth c H locs cells slots Q (F0 m pc ls (.long y :: .long x :: rest)) := lv_lmul X.1.1 X.1.2.1 d kk
theorem z_land (pc : Nat) {x y : Int64} (X : zX D cA p s m args meth c cc nL own ret) (d : decode cc pc = .ok (.land, 1)) (kk : W p l e R s m args below meth c H locs cells slots Q (F0 m (pc + 1) ls (.long (x &&& y) :: rest))) : W p l e R s m args below meth c H locs cells slots Q (F0 m pc ls (.long y :: .long x :: rest)) := lv_land X.1.1 X.1.2.1 d kk
theorem z_lor (pc : Nat) {x y : Int64} (X : zX D cA p s m args meth c cc nL own ret) (d : decode cc pc = .ok (.lor, 1)) (kk : W p l e R s m args below meth c H locs cells slots Q (F0 m (pc + 1) ls (.long (x ||| y) :: rest))) : W p l e R s m args below meth c H locs cells slots Q (F0 m pc ls (.long y :: .long x :: rest)) := lv_lor X.1.1 X.1.2.1 d kk
def zshl (x : Int64) (y : Int32) : Int64 := x <<< (y.toInt64 &&& 63)
def zushr (x : Int64) (y : Int32) : Int64 := (x.toUInt64 >>> (y.toInt64.toUInt64 &&& Int64.toUInt64 63)).toInt64
theorem z_lshl (pc : Nat) {x : Int64} {y : Int32} (X : zX D cA p s m args meth c cc nL own ret) (d : decode cc pc = .ok (.lshl, 1)) (kk : W p l e R s m args below meth c H locs cells slots Q (F0 m (pc + 1) ls (.long (zshl x y) :: rest))) : W p l e R s m args below meth c H locs cells slots Q (F0 m pc ls (.int y :: .long x :: rest)) := lv_lshl X.1.1 X.1.2.1 d rfl kk
theorem z_lushr (pc : Nat) {x : Int64} {y : Int32} (X : zX D cA p s m args meth c cc nL own ret) (d : decode cc pc = .ok (.lushr, 1)) (kk : W p l e R s m args below meth c H locs cells slots Q (F0 m (pc + 1) ls (.long (zushr x y) :: rest))) : W p l e R s m args below meth c H locs cells slots Q (F0 m pc ls (.int y :: .long x :: rest)) := lv_lushr X.1.1 X.1.2.1 d rfl kk
def zshr (x : Int64) (y : Int32) : Int64 := x >>> (y.toInt64 &&& 63)
theorem z_lshr (pc : Nat) {x : Int64} {y : Int32} (X : zX D cA p s m args meth c cc nL own ret) (d : decode cc pc = .ok (.lshr, 1)) (kk : W p l e R s m args below meth c H locs cells slots Q (F0 m (pc + 1) ls (.long (zshr x y) :: rest))) : W p l e R s m args below meth c H locs cells slots Q (F0 m pc ls (.int y :: .long x :: rest)) := lv_lshr X.1.1 X.1.2.1 d rfl kk
theorem z_i2l (pc : Nat) {x : Int32} (X : zX D cA p s m args meth c cc nL own ret) (d : decode cc pc = .ok (.i2l, 1)) (kk : W p l e R s m args below meth c H locs cells slots Q (F0 m (pc + 1) ls (.long x.toInt64 :: rest))) : W p l e R s m args below meth c H locs cells slots Q (F0 m pc ls (.int x :: rest)) := lv_i2l X.1.1 X.1.2.1 d rfl kk
theorem z_l2i (pc : Nat) {x : Int64} (X : zX D cA p s m args meth c cc nL own ret) (d : decode cc pc = .ok (.l2i, 1)) (kk : W p l e R s m args below meth c H locs cells slots Q (F0 m (pc + 1) ls (.int x.toInt32 :: rest))) : W p l e R s m args below meth c H locs cells slots Q (F0 m pc ls (.long x :: rest)) := lv_l2i X.1.1 X.1.2.1 d rfl kk
theorem z_lcmp (pc : Nat) {x y : Int64} (X : zX D cA p s m args meth c cc nL own ret) (d : decode cc pc = .ok (.lcmp, 1)) (kk : W p l e R s m args below meth c H locs cells slots Q (F0 m (pc + 1) ls (.int (lg_cmp x y) :: rest))) : W p l e R s m args below meth c H locs cells slots Q (F0 m pc ls (.long y :: .long x :: rest)) := W.lcmp X.1.1 X.1.2.1 d kk
theorem z_dup (pc : Nat) {v : Value} (X : zX D cA p s m args meth c cc nL own ret) (d : decode cc pc = .ok (.dup, 1)) (hv : v.category = 1) (kk : W p l e R s m args below meth c H locs cells slots Q (F0 m (pc + 1) ls (v :: v :: rest))) : W p l e R s m args below meth c H locs cells slots Q (F0 m pc ls (v :: rest)) := lv_dup X.1.1 X.1.2.1 d hv kk
theorem z_pop (pc : Nat) {v : Value} (X : zX D cA p s m args meth c cc nL own ret) (d : decode cc pc = .ok (.pop, 1)) (hv : v.category = 1) (kk : W p l e R s m args below meth c H locs cells slots Q (F0 m (pc + 1) ls rest)) : W p l e R s m args below meth c H locs cells slots Q (F0 m pc ls (v :: rest)) := lv_pop X.1.1 X.1.2.1 d hv kk
theorem z_dup2 (pc : Nat) {va vb : Value} (X : zX D cA p s m args meth c cc nL own ret) (d : decode cc pc = .ok (.dup2, 1)) (hva : va.category = 1) (hvb : vb.category = 1) (kk : W p l e R s m args below meth c H locs cells slots Q (F0 m (pc + 1) ls (va :: vb :: va :: vb :: rest))) : W p l e R s m args below meth c H locs cells slots Q (F0 m pc ls (va :: vb :: rest)) := lv_dup2_11 X.1.1 X.1.2.1 d hva hvb kk
theorem z_goto (pc tgt : Nat) {off : Int} (X : zX D cA p s m args meth c cc nL own ret) (d : decode cc pc = .ok (.goto off, 3)) (ht : (pc : Int) + off = (tgt : Int)) (kk : W p l e R s m args below meth c H locs cells slots Q (F0 m tgt ls rest)) : W p l e R s m args below meth c H locs cells slots Q (F0 m pc ls rest) := lv_goto X.1.1 X.1.2.1 d ht kk
theorem z_if_eq (pc tgt : Nat) {off : Int} {x : Int32} (X : zX D cA p s m args meth c cc nL own ret) (d : decode cc pc = .ok (.ifCond .eq off, 3)) (ht : (pc : Int) + off = (tgt : Int)) (kt : x = 0 → W p l e R s m args below meth c H locs cells slots Q (F0 m tgt ls rest)) (kf : ¬ x = 0 → W p l e R s m args below meth c H locs cells slots Q (F0 m (pc + 3) ls rest)) : W p l e R s m args below meth c H locs cells slots Q (F0 m pc ls (.int x :: rest)) := lv_if_eq X.1.1 X.1.2.1 d ht kt kf
theorem z_if_ne (pc tgt : Nat) {off : Int} {x : Int32} (X : zX D cA p s m args meth c cc nL own ret) (d : decode cc pc = .ok (.ifCond .ne off, 3)) (ht : (pc : Int) + off = (tgt : Int)) (kt : ¬ x = 0 → W p l e R s m args below meth c H locs cells slots Q (F0 m tgt ls rest)) (kf : x = 0 → W p l e R s m args below meth c H locs cells slots Q (F0 m (pc + 3) ls rest)) : W p l e R s m args below meth c H locs cells slots Q (F0 m pc ls (.int x :: rest)) := lv_if_ne X.1.1 X.1.2.1 d ht kt kf
theorem z_if_lt (pc tgt : Nat) {off : Int} {x : Int32} (X : zX D cA p s m args meth c cc nL own ret) (d : decode cc pc = .ok (.ifCond .lt off, 3)) (ht : (pc : Int) + off = (tgt : Int)) (kt : x < 0 → W p l e R s m args below meth c H locs cells slots Q (F0 m tgt ls rest)) (kf : ¬ x < 0 → W p l e R s m args below meth c H locs cells slots Q (F0 m (pc + 3) ls rest)) : W p l e R s m args below meth c H locs cells slots Q (F0 m pc ls (.int x :: rest)) := lv_if_lt X.1.1 X.1.2.1 d ht kt kf
theorem z_if_ge (pc tgt : Nat) {off : Int} {x : Int32} (X : zX D cA p s m args meth c cc nL own ret) (d : decode cc pc = .ok (.ifCond .ge off, 3)) (ht : (pc : Int) + off = (tgt : Int)) (kt : 0 ≤ x → W p l e R s m args below meth c H locs cells slots Q (F0 m tgt ls rest)) (kf : ¬ 0 ≤ x → W p l e R s m args below meth c H locs cells slots Q (F0 m (pc + 3) ls rest)) : W p l e R s m args below meth c H locs cells slots Q (F0 m pc ls (.int x :: rest)) := lv_if_ge X.1.1 X.1.2.1 d ht kt kf
theorem z_if_gt (pc tgt : Nat) {off : Int} {x : Int32} (X : zX D cA p s m args meth c cc nL own ret) (d : decode cc pc = .ok (.ifCond .gt off, 3)) (ht : (pc : Int) + off = (tgt : Int)) (kt : 0 < x → W p l e R s m args below meth c H locs cells slots Q (F0 m tgt ls rest)) (kf : ¬ 0 < x → W p l e R s m args below meth c H locs cells slots Q (F0 m (pc + 3) ls rest)) : W p l e R s m args below meth c H locs cells slots Q (F0 m pc ls (.int x :: rest)) := lv_if_gt X.1.1 X.1.2.1 d ht kt kf
theorem z_if_le (pc tgt : Nat) {off : Int} {x : Int32} (X : zX D cA p s m args meth c cc nL own ret) (d : decode cc pc = .ok (.ifCond .le off, 3)) (ht : (pc : Int) + off = (tgt : Int)) (kt : x ≤ 0 → W p l e R s m args below meth c H locs cells slots Q (F0 m tgt ls rest)) (kf : ¬ x ≤ 0 → W p l e R s m args below meth c H locs cells slots Q (F0 m (pc + 3) ls rest)) : W p l e R s m args below meth c H locs cells slots Q (F0 m pc ls (.int x :: rest)) := lv_if_le X.1.1 X.1.2.1 d ht kt kf
theorem z_icmp_eq (pc tgt : Nat) {off : Int} {x y : Int32} (X : zX D cA p s m args meth c cc nL own ret) (d : decode cc pc = .ok (.if_icmp .eq off, 3)) (ht : (pc : Int) + off = (tgt : Int)) (kt : x = y → W p l e R s m args below meth c H locs cells slots Q (F0 m tgt ls rest)) (kf : ¬ x = y → W p l e R s m args below meth c H locs cells slots Q (F0 m (pc + 3) ls rest)) : W p l e R s m args below meth c H locs cells slots Q (F0 m pc ls (.int y :: .int x :: rest)) := lv_icmp_eq X.1.1 X.1.2.1 d ht kt kf
theorem z_icmp_ne (pc tgt : Nat) {off : Int} {x y : Int32} (X : zX D cA p s m args meth c cc nL own ret) (d : decode cc pc = .ok (.if_icmp .ne off, 3)) (ht : (pc : Int) + off = (tgt : Int)) (kt : ¬ x = y → W p l e R s m args below meth c H locs cells slots Q (F0 m tgt ls rest)) (kf : x = y → W p l e R s m args below meth c H locs cells slots Q (F0 m (pc + 3) ls rest)) : W p l e R s m args below meth c H locs cells slots Q (F0 m pc ls (.int y :: .int x :: rest)) := lv_icmp_ne X.1.1 X.1.2.1 d ht kt kf
theorem z_icmp_lt (pc tgt : Nat) {off : Int} {x y : Int32} (X : zX D cA p s m args meth c cc nL own ret) (d : decode cc pc = .ok (.if_icmp .lt off, 3)) (ht : (pc : Int) + off = (tgt : Int)) (kt : x < y → W p l e R s m args below meth c H locs cells slots Q (F0 m tgt ls rest)) (kf : ¬ x < y → W p l e R s m args below meth c H locs cells slots Q (F0 m (pc + 3) ls rest)) : W p l e R s m args below meth c H locs cells slots Q (F0 m pc ls (.int y :: .int x :: rest)) := lv_icmp_lt X.1.1 X.1.2.1 d ht kt kf
theorem z_icmp_ge (pc tgt : Nat) {off : Int} {x y : Int32} (X : zX D cA p s m args meth c cc nL own ret) (d : decode cc pc = .ok (.if_icmp .ge off, 3)) (ht : (pc : Int) + off = (tgt : Int)) (kt : y ≤ x → W p l e R s m args below meth c H locs cells slots Q (F0 m tgt ls rest)) (kf : ¬ y ≤ x → W p l e R s m args below meth c H locs cells slots Q (F0 m (pc + 3) ls rest)) : W p l e R s m args below meth c H locs cells slots Q (F0 m pc ls (.int y :: .int x :: rest)) := lv_icmp_ge X.1.1 X.1.2.1 d ht kt kf
theorem z_icmp_gt (pc tgt : Nat) {off : Int} {x y : Int32} (X : zX D cA p s m args meth c cc nL own ret) (d : decode cc pc = .ok (.if_icmp .gt off, 3)) (ht : (pc : Int) + off = (tgt : Int)) (kt : y < x → W p l e R s m args below meth c H locs cells slots Q (F0 m tgt ls rest)) (kf : ¬ y < x → W p l e R s m args below meth c H locs cells slots Q (F0 m (pc + 3) ls rest)) : W p l e R s m args below meth c H locs cells slots Q (F0 m pc ls (.int y :: .int x :: rest)) := lv_icmp_gt X.1.1 X.1.2.1 d ht kt kf
theorem z_icmp_le (pc tgt : Nat) {off : Int} {x y : Int32} (X : zX D cA p s m args meth c cc nL own ret) (d : decode cc pc = .ok (.if_icmp .le off, 3)) (ht : (pc : Int) + off = (tgt : Int)) (kt : x ≤ y → W p l e R s m args below meth c H locs cells slots Q (F0 m tgt ls rest)) (kf : ¬ x ≤ y → W p l e R s m args below meth c H locs cells slots Q (F0 m (pc + 3) ls rest)) : W p l e R s m args below meth c H locs cells slots Q (F0 m pc ls (.int y :: .int x :: rest)) := lv_icmp_le X.1.1 X.1.2.1 d ht kt kf
theorem z_swIn (pc tgt : Nat) {dflt lo hi : Int} {offs : Array Int} {len : Nat} {x : Int32} {off : Int} (v : Int32) (X : zX D cA p s m args meth c cc nL own ret) (d : decode cc pc = .ok (.tableswitch dflt lo hi offs, len)) (hx : x = v) (hv : ¬ v.toInt < lo ∧ ¬ hi < v.toInt ∧ offs[(v.toInt - lo).toNat]? = some off) (ht : (pc : Int) + off = (tgt : Int)) (kk : W p l e R s m args below meth c H locs cells slots Q (F0 m tgt ls rest)) : W p l e R s m args below meth c H locs cells slots Q (F0 m pc ls (.int x :: rest)) := by
  subst hx
  exact lv_tableIn X.1.1 X.1.2.1 d hv.1 hv.2.1 hv.2.2 ht kk
def zAllNe : Nat → Int32 → Prop
  | 0, _ => True
  | n + 1, x => zAllNe n x ∧ ¬ x = Int32.ofNat n
theorem zAllNe_at {n : Nat} {x : Int32} (h : zAllNe n x) : ∀ k : Nat, k < n → ¬ x = Int32.ofNat k := by
  induction n with
  | zero => intro k hk; omega
  | succ n ih =>
    intro k hk
    by_cases e : k = n
    · subst e; exact h.2
    · exact ih h.1 k (by omega)
theorem z_swOut (pc tgt n : Nat) {dflt hi : Int} {offs : Array Int} {len : Nat} {x : Int32} (X : zX D cA p s m args meth c cc nL own ret) (d : decode cc pc = .ok (.tableswitch dflt 0 hi offs, len)) (hn : hi = (n : Int) - 1) (hx0 : zAllNe n x) (ht : (pc : Int) + dflt = (tgt : Int)) (kk : W p l e R s m args below meth c H locs cells slots Q (F0 m tgt ls rest)) : W p l e R s m args below meth c H locs cells slots Q (F0 m pc ls (.int x :: rest)) := by
  have hx := zAllNe_at hx0
  refine lv_tableOut X.1.1 X.1.2.1 d ?_ ht kk
  by_cases h : x.toInt < 0
  · exact Or.inl h
  · refine Or.inr ?_
    by_cases h2 : hi < x.toInt
    · exact h2
    · refine absurd ?_ (hx x.toInt.toNat (by omega))
      apply Int32.toInt_inj.mp
      have h3 := Int32.toInt_lt x
      rw [Int32.toInt_ofNat_of_lt (by omega)]
      omega
theorem z_lswt (pc tgt : Nat) {dflt : Int} {ps : Array (Int × Int)} {len : Nat} {x : Int32} {off : Int} (X : zX D cA p s m args meth c cc nL own ret) (d : decode cc pc = .ok (.lookupswitch dflt ps, len)) (hp : (ps.toList.zip (ps.toList.drop 1)).all (fun (a, next) => a.1 < next.1) = true) (ho : Op.lookupswitch.offset ps.toList dflt x.toInt = off) (ht : (pc : Int) + off = (tgt : Int)) (kk : W p l e R s m args below meth c H locs cells slots Q (F0 m tgt ls rest)) : W p l e R s m args below meth c H locs cells slots Q (F0 m pc ls (.int x :: rest)) := lv_lookup X.1.1 X.1.2.1 d hp ho ht kk
end ZV
theorem z_lswD {x : Int32} {a b c : Int32} {a1 o1 b1 o2 c1 o3 df : Int} (h1 : ¬ x = a) (h2 : ¬ x = b) (h3 : ¬ x = c) (e1 : a.toInt = a1 := by decide) (e2 : b.toInt = b1 := by decide) (e3 : c.toInt = c1 := by decide) : Op.lookupswitch.offset [(a1, o1), (b1, o2), (c1, o3)] df x.toInt = df := by
  subst e1 e2 e3
  show (if a.toInt = x.toInt then o1 else if b.toInt = x.toInt then o2 else if c.toInt = x.toInt then o3 else df) = df
  rw [if_neg (fun e => h1 (Int32.toInt_inj.mp e.symm)), if_neg (fun e => h2 (Int32.toInt_inj.mp e.symm)), if_neg (fun e => h3 (Int32.toInt_inj.mp e.symm))]
