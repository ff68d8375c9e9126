/-! THE LAYER: a world is a list of shapes; its cells' addresses are 'ad'; what it holds is a state of ints and longs by cell and place. XX: the walk at a pc, in words of this state. -/
abbrev SQ : Type := (Nat → Nat → Int32) × (Nat → Nat → Int64)
def gI (q : SQ) (o k : Nat) : Int32 := q.1 o k
def gL (q : SQ) (o k : Nat) : Int64 := q.2 o k
def sI (q : SQ) (o k : Nat) (v : Int32) : SQ := (fun a b => if a = o ∧ b = k then v else q.1 a b, q.2)
def sL (q : SQ) (o k : Nat) (v : Int64) : SQ := (q.1, fun a b => if a = o ∧ b = k then v else q.2 a b)
/-- a field: a cell's number, an int, a long -/
abbrev sx_F : Type := Nat ⊕ Bool
/-- a shape: an array (of booleans or ints, its length), or an object (its class, its fields) -/
abbrev sx_H : Type := (Bool × Nat) ⊕ (Nat × List sx_F)
def sx_fv (ad : Nat → Nat) (q : SQ) (o i : Nat) (f : sx_F) : Value := match f with
  | .inl k => .ref (ad k)
  | .inr false => .int (gI q o i)
  | .inr true => .long (gL q o i)
def sx_cv (cI cZ : ClassId) (ad : Nat → Nat) (q : SQ) (o : Nat) (h : sx_H) : va_E := match h with
  | .inl (z, n) => .inl (if z then cZ else cI, n, .inl (q.1 o))
  | .inr (c, fs) => .inr (c, fs.mapIdx (fun i f => sx_fv ad q o i f))
def sx_cw (sh : List sx_H) (cI cZ : ClassId) (ad : Nat → Nat) (q : SQ) : va_W := sh.mapIdx (fun o x => (ad o, sx_cv cI cZ ad q o x))
def sx_cz (ad : Nat → Nat) (v : Value) : Value := match v with
  | .ref k => .ref (ad k)
  | w => w
theorem sx_cz_cat (ad : Nat → Nat) (v : Value) : (sx_cz ad v).category = v.category := by cases v <;> rfl
theorem sx_cats (ad : Nat → Nat) (st : List Value) : ((st.map (sx_cz ad)).map fun v => v.category) = st.map fun v => v.category := by
  rw [List.map_map]
  exact List.map_congr_left (fun v _ => sx_cz_cat ad v)
theorem sx_get {sh : List sx_H} {cI cZ : ClassId} {ad : Nat → Nat} {q : SQ} {o : Nat} {x : sx_H} (h : sh[o]? = some x) : (sx_cw sh cI cZ ad q)[o]? = some (ad o, sx_cv cI cZ ad q o x) := by
  simp [sx_cw, List.getElem?_mapIdx, h]
theorem sx_getO {sh : List sx_H} {cI cZ : ClassId} {ad : Nat → Nat} {q : SQ} {o c : Nat} {fs : List sx_F} (h : sh[o]? = some (.inr (c, fs))) : (sx_cw sh cI cZ ad q)[o]? = some (ad o, .inr (c, fs.mapIdx (fun i f => sx_fv ad q o i f))) := sx_get h
theorem sx_getA {sh : List sx_H} {cI cZ : ClassId} {ad : Nat → Nat} {q : SQ} {o n : Nat} {z : Bool} (h : sh[o]? = some (.inl (z, n))) : (sx_cw sh cI cZ ad q)[o]? = some (ad o, .inl (if z then cZ else cI, n, .inl (q.1 o))) := sx_get h
theorem sx_fld {ad : Nat → Nat} {q : SQ} {o k : Nat} {fs : List sx_F} {f : sx_F} (h : fs[k]? = some f) : (fs.mapIdx (fun i f => sx_fv ad q o i f))[k]? = some (sx_fv ad q o k f) := by
  simp [List.getElem?_mapIdx, h]
theorem gI_sI (q : SQ) (o k : Nat) (v : Int32) (a b : Nat) : gI (sI q o k v) a b = if a = o ∧ b = k then v else gI q a b := rfl
theorem gL_sI (q : SQ) (o k : Nat) (v : Int32) (a b : Nat) : gL (sI q o k v) a b = gL q a b := rfl
theorem gI_sL (q : SQ) (o k : Nat) (v : Int64) (a b : Nat) : gI (sL q o k v) a b = gI q a b := rfl
theorem gL_sL (q : SQ) (o k : Nat) (v : Int64) (a b : Nat) : gL (sL q o k v) a b = if a = o ∧ b = k then v else gL q a b := rfl
theorem sx_row (q : SQ) (o k : Nat) (v : Int32) : (sI q o k v).1 o = upd (q.1 o) k v := by
  funext b
  by_cases h : b = k
  · simp [sI, upd, h]
  · simp [sI, upd, h]
theorem sx_row_ne (q : SQ) {o a : Nat} (k : Nat) (v : Int32) (h : a ≠ o) : (sI q o k v).1 a = q.1 a := by
  funext b
  simp [sI, h]
theorem sx_cv_ne {cI cZ : ClassId} {ad : Nat → Nat} {q q2 : SQ} {a : Nat} (h1 : q2.1 a = q.1 a) (h2 : q2.2 a = q.2 a) (x : sx_H) : sx_cv cI cZ ad q2 a x = sx_cv cI cZ ad q a x := by
  rcases x with ⟨z, n⟩ | ⟨c, fs⟩
  · simp only [sx_cv, h1]
  · have e : (fun (i : Nat) (f : sx_F) => sx_fv ad q2 a i f) = fun (i : Nat) (f : sx_F) => sx_fv ad q a i f := by
      funext i f
      rcases f with k | b
      · rfl
      · cases b
        · show Value.int (q2.1 a i) = Value.int (q.1 a i)
          rw [h1]
        · show Value.long (q2.2 a i) = Value.long (q.2 a i)
          rw [h2]
    simp only [sx_cv, e]
theorem sx_setG {sh : List sx_H} {cI cZ : ClassId} {ad : Nat → Nat} {q q2 : SQ} {o : Nat} {x : sx_H} {e : va_E} (hs : sh[o]? = some x) (he : e = sx_cv cI cZ ad q2 o x) (h1 : ∀ a, a ≠ o → q2.1 a = q.1 a) (h2 : ∀ a, a ≠ o → q2.2 a = q.2 a) :
    (sx_cw sh cI cZ ad q).set o (ad o, e) = sx_cw sh cI cZ ad q2 := by
  subst he
  apply List.ext_getElem?
  intro j
  by_cases hj : j = o
  · subst hj
    have hl : j < (sx_cw sh cI cZ ad q).length := (List.getElem?_eq_some_iff.mp (sx_get (cI := cI) (cZ := cZ) (ad := ad) (q := q) hs)).1
    rw [List.getElem?_set_self hl, sx_get hs]
  · rw [List.getElem?_set_ne (Ne.symm hj)]
    simp only [sx_cw, List.getElem?_mapIdx]
    cases sh[j]? with
    | none => rfl
    | some y =>
      simp only [Option.map_some]
      rw [sx_cv_ne (h1 j hj) (h2 j hj)]
theorem sx_setI {sh : List sx_H} {cI cZ : ClassId} {ad : Nat → Nat} {q : SQ} {o c k : Nat} {fs : List sx_F} (v : Int32) (hs : sh[o]? = some (.inr (c, fs))) (hf : fs[k]? = some (.inr false)) :
    (sx_cw sh cI cZ ad q).set o (ad o, .inr (c, (fs.mapIdx (fun i f => sx_fv ad q o i f)).set k (.int v))) = sx_cw sh cI cZ ad (sI q o k v) := by
  refine sx_setG hs ?_ (fun a h => sx_row_ne q k v h) (fun a _ => rfl)
  show Sum.inr _ = Sum.inr _
  congr 2
  apply List.ext_getElem?
  intro j
  by_cases hj : j = k
  · subst hj
    have hl : j < (fs.mapIdx (fun i f => sx_fv ad q o i f)).length := (List.getElem?_eq_some_iff.mp (sx_fld (ad := ad) (q := q) (o := o) hf)).1
    rw [List.getElem?_set_self hl, sx_fld hf]
    show some (Value.int v) = some (Value.int (gI (sI q o j v) o j))
    simp [gI_sI]
  · rw [List.getElem?_set_ne (Ne.symm hj)]
    simp only [List.getElem?_mapIdx]
    cases fs[j]? with
    | none => rfl
    | some y =>
      rcases y with r | b
      · rfl
      · cases b
        · show some (Value.int (gI q o j)) = some (Value.int (gI (sI q o k v) o j))
          simp [gI_sI, hj]
        · rfl
theorem sx_setL {sh : List sx_H} {cI cZ : ClassId} {ad : Nat → Nat} {q : SQ} {o c k : Nat} {fs : List sx_F} (v : Int64) (hs : sh[o]? = some (.inr (c, fs))) (hf : fs[k]? = some (.inr true)) :
    (sx_cw sh cI cZ ad q).set o (ad o, .inr (c, (fs.mapIdx (fun i f => sx_fv ad q o i f)).set k (.long v))) = sx_cw sh cI cZ ad (sL q o k v) := by
  refine sx_setG hs ?_ (fun a _ => rfl) (fun a h => by funext b; simp [sL, h])
  show Sum.inr _ = Sum.inr _
  congr 2
  apply List.ext_getElem?
  intro j
  by_cases hj : j = k
  · subst hj
    have hl : j < (fs.mapIdx (fun i f => sx_fv ad q o i f)).length := (List.getElem?_eq_some_iff.mp (sx_fld (ad := ad) (q := q) (o := o) hf)).1
    rw [List.getElem?_set_self hl, sx_fld hf]
    show some (Value.long v) = some (Value.long (gL (sL q o j v) o j))
    simp [gL_sL]
  · rw [List.getElem?_set_ne (Ne.symm hj)]
    simp only [List.getElem?_mapIdx]
    cases fs[j]? with
    | none => rfl
    | some y =>
      rcases y with r | b
      · rfl
      · cases b
        · rfl
        · show some (Value.long (gL q o j)) = some (Value.long (gL (sL q o k v) o j))
          simp [gL_sL, hj]
theorem sx_setA {sh : List sx_H} {cI cZ : ClassId} {ad : Nat → Nat} {q : SQ} {o n : Nat} {z : Bool} (k : Nat) (v : Int32) (hs : sh[o]? = some (.inl (z, n))) :
    (sx_cw sh cI cZ ad q).set o (ad o, .inl (if z then cZ else cI, n, .inl (upd (q.1 o) k v))) = sx_cw sh cI cZ ad (sI q o k v) := by
  refine sx_setG hs ?_ (fun a h => sx_row_ne q k v h) (fun a _ => rfl)
  show Sum.inl _ = Sum.inl _
  rw [sx_row]
/-- a row of the state written anew -/
def sA (q : SQ) (o : Nat) (f : Nat → Int32) : SQ := (fun a b => if a = o then f b else q.1 a b, q.2)
theorem gI_sA (q : SQ) (o : Nat) (f : Nat → Int32) (a b : Nat) : gI (sA q o f) a b = if a = o then f b else gI q a b := rfl
theorem gL_sA (q : SQ) (o : Nat) (f : Nat → Int32) (a b : Nat) : gL (sA q o f) a b = gL q a b := rfl
theorem sx_setR {sh : List sx_H} {cI cZ : ClassId} {ad : Nat → Nat} {q : SQ} {o n : Nat} {z : Bool} (f : Nat → Int32) (hs : sh[o]? = some (.inl (z, n))) :
    (sx_cw sh cI cZ ad q).set o (ad o, .inl (if z then cZ else cI, n, .inl f)) = sx_cw sh cI cZ ad (sA q o f) := by
  refine sx_setG hs ?_ (fun a h => by funext b; simp [sA, h]) (fun a _ => rfl)
  show Sum.inl _ = Sum.inl _
  have e : (sA q o f).1 o = f := by funext b; simp [sA]
  rw [e]
theorem sx_addr {sh : List sx_H} {cI cZ : ClassId} {ad : Nat → Nat} {q q2 : SQ} {k : Nat} {p : Nat × va_E} (h : (sx_cw sh cI cZ ad q)[k]? = some p) : ∃ p2, (sx_cw sh cI cZ ad q2)[k]? = some p2 ∧ p2.1 = p.1 := by
  simp only [sx_cw, List.getElem?_mapIdx] at h ⊢
  cases hs : sh[k]? with
  | none => rw [hs] at h; cases h
  | some y =>
    rw [hs] at h
    cases h
    exact ⟨_, rfl, rfl⟩
theorem sx_D {A : Nat → Prop} {sh : List sx_H} {cI cZ : ClassId} {ad : Nat → Nat} {q : SQ} (q2 : SQ) (h : va_D A (sx_cw sh cI cZ ad q)) : va_D A (sx_cw sh cI cZ ad q2) := by
  refine ⟨fun i j x y hi hj hxy => ?_, fun k x hk => ?_⟩
  · obtain ⟨x2, a1, a2⟩ := sx_addr (q2 := q) hi
    obtain ⟨y2, b1, b2⟩ := sx_addr (q2 := q) hj
    exact h.1 i j x2 y2 a1 b1 (a2.trans (hxy.trans b2.symm))
  · obtain ⟨x2, a1, a2⟩ := sx_addr (q2 := q) hk
    rw [← a2]
    exact h.2 k x2 a1
theorem sx_A {sh : List sx_H} {cI cZ : ClassId} {ad : Nat → Nat} {q : SQ} (q2 : SQ) {sz a : Nat} (h : va_A (sx_cw sh cI cZ ad q) sz a) : va_A (sx_cw sh cI cZ ad q2) sz a := by
  rcases h with ⟨k, e, h⟩ | h
  · obtain ⟨p2, a1, a2⟩ := sx_addr (q2 := q2) h
    exact Or.inl ⟨k, p2.2, by rw [a1, show a = p2.1 from a2.symm]⟩
  · exact Or.inr h
/-- what a world stands on besides its own cells (texts, static arrays) stays -/
def sx_KS (K : (Nat → Nat) → (Nat → Prop) → State → Heap → Prop) : Prop :=
  (∀ (ad : Nat → Nat) (A : Nat → Prop) (u U : State) (H : Heap), u.WarmedH U.vm → K ad A u H → K ad A U H) ∧
  (∀ (ad : Nat → Nat) (A : Nat → Prop) (U : State) (H H1 : Heap), K ad A U H → (∀ a : Nat, a < H.size → ¬ A a → H1[a]? = H[a]?) → K ad A U H1) ∧
  (∀ (ad : Nat → Nat) (A B : Nat → Prop) (U : State) (H : Heap), (∀ a, B a → A a) → K ad A U H → K ad B U H)
def sx_Q (sh : List sx_H) (cl : List vw_C) (tf : ClassId → ClassId → List (ClassId × FieldType)) (Q : Option Value → SQ → Prop) (D : va_G) (cI cZ : ClassId) (ad : Nat → Nat) (A : Nat → Prop) : Array Value → State → Outcome → State → Prop := fun _ st oc t =>
  (∃ (r : Option Value) (q2 : SQ), oc = .returned (r.map (sx_cz ad)) ∧ Q r q2 ∧ va_P D cl (sx_cw sh cI cZ ad q2) t.heap ∧ va_K D cl (tf cI cZ) t) ∧ va_F A st t
def XX (sh : List sx_H) (cl : List vw_C) (K : (Nat → Nat) → (Nat → Prop) → State → Heap → Prop) (tf : ClassId → ClassId → List (ClassId × FieldType)) (l : Launch) (own : String) (cc : ByteArray) (nL : Nat) (ret : Option FieldType) (R : Room) (Q : Option Value → SQ → Prop) (pc : Nat) (ls : List (Nat × Value)) (st : List Value) (q : SQ) : Prop :=
  ∀ (p : Program) (e : Env) (s : State) (m : MethodId) (args : Array Value) (below : List Frame) (meth : Method) (c : Code) (H : Heap) (locs : List Loc) (D : va_G) (ad : Nat → Nat) (cI cZ : ClassId) (A : Nat → Prop) (lsC : Array Slot),
    p.tables.exec = Jvm.exec → c.code = cc → meth.sig.returnType = ret → meth.locks = false → c.maxLocals = nL → s.vm.findClass own = some m.cls → (∀ w ∈ GG, w.before args s = true) → K ad A s s.heap → va_K D cl (tf cI cZ) s → va_P D cl (sx_cw sh cI cZ ad q) H → va_D A (sx_cw sh cI cZ ad q) → va_S A s.heap H locs → (∀ a, s.heap.size ≤ a → A a) → lv_has lsC nL (ls.map (fun z => (z.1, sx_cz ad z.2))) →
    W p l e R s m args below meth c H locs 0 0 (MQ below (sx_Q sh cl tf Q D cI cZ ad A) args s 0 0 A) (F0 m pc lsC (st.map (sx_cz ad)))
/-- a method's contract: on this state, with these arguments, it answers 'res' and leaves the state q2 -/
def CK (sh : List sx_H) (cl : List vw_C) (K : (Nat → Nat) → (Nat → Prop) → State → Heap → Prop) (tf : ClassId → ClassId → List (ClassId × FieldType)) (l : Launch) (y : MethodName) (cc : ByteArray) (nL : Nat) (ret : Option FieldType) (f L : Nat) (args : List Value) (q : SQ) (res : Option Value) (q2 : SQ) : Prop :=
  ∀ (D : va_G) (ad : Nat → Nat) (cI cZ : ClassId) (sz : Nat), Met l y (Cond.code y cc nL ret :: GG) { frames := f, cells := 0, slots := 0, locals := L } (va_Pc (args.map (sx_cz ad)) (fun U => U.heap.size = sz ∧ va_P D cl (sx_cw sh cI cZ ad q) U.heap ∧ va_K D cl (tf cI cZ) U ∧ va_D (fun _ => True) (sx_cw sh cI cZ ad q) ∧ K ad (va_A (sx_cw sh cI cZ ad q) sz) U U.heap)) (sx_Q sh cl tf (fun r q3 => r = res ∧ q3 = q2) D cI cZ ad (va_A (sx_cw sh cI cZ ad q) sz)) 0 0 (va_A (sx_cw sh cI cZ ad q) sz)
/-- what the tables say of a method -/
def sx_MI (y : MethodName) (cc : ByteArray) (nL : Nat) (ret : Option FieldType) (n : Nat) : Prop := plainName y.cls = true ∧ (y.cls ≠ "java/lang/invoke/MethodHandle" ∧ y.cls ≠ "java/lang/invoke/VarHandle" ∧ (parseMethodDescriptor y.desc).map (fun d => d.parameters.length) = some n) ∧ Cond.code y cc nL ret ∈ GG ∧ Cond.initialized y.cls ∈ GG
theorem sx_good {y : MethodName} {cc : ByteArray} {nL : Nat} {ret : Option FieldType} (h : Cond.code y cc nL ret ∈ GG) : GoodIn GG (Cond.code y cc nL ret :: GG) := by
  intro w hw
  have hm : w ∈ GG := by
    rcases List.mem_cons.mp hw with rfl | h2
    · exact h
    · exact h2
  exact ⟨hm, good_of_word (gg_good w hm).2⟩
theorem sx_args (ad : Nat → Nat) : ∀ (i : Nat) (vs : List Value), lv_args i (vs.map (sx_cz ad)) = (lv_args i vs).map (fun z => (z.1, sx_cz ad z.2))
  | _, [] => rfl
  | i, v :: vs => by
    simp only [List.map_cons, lv_args, sx_cz_cat, sx_args ad _ vs]
theorem sx_sl (ad : Nat → Nat) : ∀ (vs : List Value), (lg_sl (vs.map (sx_cz ad))).length = (lg_sl vs).length
  | [] => rfl
  | v :: vs => by
    have h := sx_sl ad vs
    simp only [lg_sl] at h
    simp only [lg_sl, List.map_cons, List.flatMap_cons, List.length_append, h, sx_cz_cat]
    by_cases hc : v.category = 2
    · simp [hc]
    · simp [hc]
theorem CK.of {sh : List sx_H} {cl : List vw_C} {K : (Nat → Nat) → (Nat → Prop) → State → Heap → Prop} {tf : ClassId → ClassId → List (ClassId × FieldType)} {l : Launch} {y : MethodName} {cc : ByteArray} {nL n : Nat} {ret : Option FieldType} {f L : Nat} {args : List Value} {q : SQ} {res : Option Value} {q2 : SQ} (mi : sx_MI y cc nL ret n) (hlen : (lg_sl args).length ≤ nL)
    (h : XX sh cl K tf l y.cls cc nL ret { frames := f, cells := 0, slots := 0, locals := L } (fun r q3 => r = res ∧ q3 = q2) 0 (lv_args 0 args) [] q) : CK sh cl K tf l y cc nL ret f L args q res q2 := by
  intro D ad cI cZ sz
  refine Met.ofW (cc := cc) (maxL := nL) (ret := ret) mi.1 rfl ?_
  intro p e s m args9 below meth c s₁ B hml hv
  obtain ⟨rfl, hsz, hP, hK, hD0, hKx⟩ := hv
  have hts := atoms_spec (ws := Cond.code y cc nL ret :: GG) B.pre
  have hown : s.vm.findClass y.cls = some m.cls := findClass_of_methodNamed B.named
  subst hsz
  have hD := hD0.self (sz := s.heap.size)
  have hl := lv_entry (args.map (sx_cz ad)) (n := nL) (by rw [sx_sl]; exact hlen)
  rw [lg_entry_eq]
  rw [sx_args] at hl
  exact h p e s m _ below meth c s.heap [] D ad cI cZ _ _ B.exec B.bytes B.returns B.notSynchronized hml hown (fun w hw => hts w (List.mem_cons_of_mem _ hw)) hKx hK hP hD va_S.rf (fun a ha => Or.inr ha) hl
section SXC
variable {p : Program} {l : Launch} {e : Env} {R : Room} {s : State} {m : MethodId} {args : Array Value} {below : List Frame} {meth : Method} {c : Code} {H : Heap} {locs : List Loc} {Q : State → Prop}
variable {pc : Nat} {ls : Array Slot} {rest st0 : List Value} {a : Array Value} {A0 A1 : Nat → Prop} {H0 : Heap} {free : Addr → Prop}
variable {sh : List sx_H} {cl : List vw_C} {tf : ClassId → ClassId → List (ClassId × FieldType)} {QQ : Option Value → SQ → Prop} {D : va_G} {cI cZ : ClassId} {ad : Nat → Nat}
theorem sx_call (hr : va_Run p l e R s m args below meth c H locs 0 0 0 0 (F0 m pc ls st0) rest (sx_Q sh cl tf QQ D cI cZ ad A1 a) free) (hS : va_S A0 H0 H locs) (hA : ∀ q, q < H.size → A1 q → A0 q) (hf : ∀ q, free q → A0 q)
    (kk : ∀ (r : Option Value) (u : SQ) (H1 : Heap) (locs1 : List Loc), QQ r u → va_P D cl (sx_cw sh cI cZ ad u) H1 → va_S A0 H0 H1 locs1 → W p l e R s m args below meth c H1 locs1 0 0 Q (F0 m (pc + 3) ls ((r.map (sx_cz ad)).toList ++ rest))) : W p l e R s m args below meth c H locs 0 0 Q (F0 m pc ls st0) := by
  intro T hT X
  obtain ⟨v, st₀, t, T', L, h0, X', hL, e1, e2, ⟨⟨r, u, hv, hp, hb, hk2⟩, hz, hk⟩, st⟩ := hr T hT X
  have hv : v = r.map (sx_cz ad) := by cases hv; rfl
  subst hv
  rw [h0] at hz hk
  obtain ⟨t2, a1, b1⟩ := kk r u T'.heap (locs ++ L) hp (by rw [e1]; exact hb)
    ⟨Nat.le_trans hS.1 (by rw [e1]; exact hz), fun q h1 h2 => by rw [e1, hk q (Nat.lt_of_lt_of_le h1 hS.1) (fun z => h2 (hA q (Nat.lt_of_lt_of_le h1 hS.1) z))]; exact hS.2.1 q h1 h2, fun q hq => by
      rcases List.mem_append.mp hq with h | h
      · exact hS.2.2 q h
      · exact hf _ (hL q h)⟩ T' rfl X'
  exact ⟨t2, st t2 a1, b1⟩
end SXC
section SXR
variable {sh : List sx_H} {cl : List vw_C} {K : (Nat → Nat) → (Nat → Prop) → State → Heap → Prop} {tf : ClassId → ClassId → List (ClassId × FieldType)} {l : Launch} {own : String} {cc : ByteArray} {nL : Nat} {ret : Option FieldType} {R : Room} {Q : Option Value → SQ → Prop} {pc : Nat} {ls : List (Nat × Value)} {st : List Value} {q : SQ}

theorem sx_iconst {n : Int} {v : Int32} (d : decode cc pc = .ok (.iconst n, 1)) (hv : Int32.ofInt n = v) (k : XX sh cl K tf l own cc nL ret R Q (pc + 1) ls (.int v :: st) q) : XX sh cl K tf l own cc nL ret R Q pc ls st q := by
  intro p e s m args below meth c H locs D ad cI cZ A lsC hx hb hr hlk hml hown hts hKx hK hP hD hS hA hl
  exact lv_iconst hx hb d hv (k p e s m args below meth c H locs D ad cI cZ A lsC hx hb hr hlk hml hown hts hKx hK hP hD hS hA hl)
theorem sx_bipush {n : Int} {v : Int32} (d : decode cc pc = .ok (.bipush n, 2)) (hv : (Int8.ofInt n).toInt32 = v) (k : XX sh cl K tf l own cc nL ret R Q (pc + 2) ls (.int v :: st) q) : XX sh cl K tf l own cc nL ret R Q pc ls st q := by
  intro p e s m args below meth c H locs D ad cI cZ A lsC hx hb hr hlk hml hown hts hKx hK hP hD hS hA hl
  exact lv_bipush hx hb d hv (k p e s m args below meth c H locs D ad cI cZ A lsC hx hb hr hlk hml hown hts hKx hK hP hD hS hA hl)
theorem sx_sipush {n : Int} {v : Int32} (d : decode cc pc = .ok (.sipush n, 3)) (hv : (Int16.ofInt n).toInt32 = v) (k : XX sh cl K tf l own cc nL ret R Q (pc + 3) ls (.int v :: st) q) : XX sh cl K tf l own cc nL ret R Q pc ls st q := by
  intro p e s m args below meth c H locs D ad cI cZ A lsC hx hb hr hlk hml hown hts hKx hK hP hD hS hA hl
  exact lv_sipush hx hb d hv (k p e s m args below meth c H locs D ad cI cZ A lsC hx hb hr hlk hml hown hts hKx hK hP hD hS hA hl)
theorem sx_lconst {n : Fin 2} {v : Int64} (d : decode cc pc = .ok (.lconst n, 1)) (hv : Int64.ofNat (n : Nat) = v) (k : XX sh cl K tf l own cc nL ret R Q (pc + 1) ls (.long v :: st) q) : XX sh cl K tf l own cc nL ret R Q pc ls st q := by
  intro p e s m args below meth c H locs D ad cI cZ A lsC hx hb hr hlk hml hown hts hKx hK hP hD hS hA hl
  exact lv_lconst hx hb d hv (k p e s m args below meth c H locs D ad cI cZ A lsC hx hb hr hlk hml hown hts hKx hK hP hD hS hA hl)
theorem sx_ldc {n : Nat} {v : Int32} (d : decode cc pc = .ok (.ldc n, 2)) (hw : Cond.constant own n v ∈ GG) (k : XX sh cl K tf l own cc nL ret R Q (pc + 2) ls (.int v :: st) q) : XX sh cl K tf l own cc nL ret R Q pc ls st q := by
  intro p e s m args below meth c H locs D ad cI cZ A lsC hx hb hr hlk hml hown hts hKx hK hP hD hS hA hl
  exact lv_ldc hx hb hown (hts _ hw) d (k p e s m args below meth c H locs D ad cI cZ A lsC hx hb hr hlk hml hown hts hKx hK hP hD hS hA hl)
theorem sx_ldcw {n : Nat} {v : Int32} (d : decode cc pc = .ok (.ldc_w n, 3)) (hw : Cond.constant own n v ∈ GG) (k : XX sh cl K tf l own cc nL ret R Q (pc + 3) ls (.int v :: st) q) : XX sh cl K tf l own cc nL ret R Q pc ls st q := by
  intro p e s m args below meth c H locs D ad cI cZ A lsC hx hb hr hlk hml hown hts hKx hK hP hD hS hA hl
  exact lv_ldcw hx hb hown (hts _ hw) d (k p e s m args below meth c H locs D ad cI cZ A lsC hx hb hr hlk hml hown hts hKx hK hP hD hS hA hl)
theorem sx_ldc2 {n : Nat} {v : Int64} (d : decode cc pc = .ok (.ldc2_w n, 3)) (hw : Cond.constantLong own n v ∈ GG) (k : XX sh cl K tf l own cc nL ret R Q (pc + 3) ls (.long v :: st) q) : XX sh cl K tf l own cc nL ret R Q pc ls st q := by
  intro p e s m args below meth c H locs D ad cI cZ A lsC hx hb hr hlk hml hown hts hKx hK hP hD hS hA hl
  exact lv_ldc2 hx hb hown (hts _ hw) d (k p e s m args below meth c H locs D ad cI cZ A lsC hx hb hr hlk hml hown hts hKx hK hP hD hS hA hl)
theorem sx_lat {ad : Nat → Nat} {lsC : Array Slot} {i : Nat} {v : Value} (hl : lv_has lsC nL (ls.map (fun z => (z.1, sx_cz ad z.2)))) (h : ls.lookup i = some v) : lsC[i]? = some (.val (sx_cz ad v)) := by
  have hm : (i, v) ∈ ls := by
    induction ls with
    | nil => cases h
    | cons z ls ih =>
      obtain ⟨a, b⟩ := z
      cases e : (i == a)
      · simp only [List.lookup_cons, e] at h
        exact List.mem_cons_of_mem _ (ih (by exact ⟨hl.1, hl.2.1, fun z hz => hl.2.2 z (List.mem_cons_of_mem _ hz)⟩) h)
      · simp only [List.lookup_cons, e] at h
        cases h
        rw [eq_of_beq e]
        exact List.mem_cons_self
  exact hl.2.2 (i, sx_cz ad v) (List.mem_map.mpr ⟨(i, v), hm, rfl⟩)
theorem sx_iload_n {k9 : Fin 4} {i : Nat} {v : Int32} (d : decode cc pc = .ok (.iload_n k9, 1)) (hi : (k9 : Nat) = i) (h : ls.lookup i = some (.int v)) (k : XX sh cl K tf l own cc nL ret R Q (pc + 1) ls (.int v :: st) q) : XX sh cl K tf l own cc nL ret R Q pc ls st q := by
  intro p e s m args below meth c H locs D ad cI cZ A lsC hx hb hr hlk hml hown hts hKx hK hP hD hS hA hl
  exact lv_iload_n hx hb d hi (sx_lat hl h) (k p e s m args below meth c H locs D ad cI cZ A lsC hx hb hr hlk hml hown hts hKx hK hP hD hS hA hl)
theorem sx_iload {i : Nat} {v : Int32} (d : decode cc pc = .ok (.iload i, 2)) (h : ls.lookup i = some (.int v)) (k : XX sh cl K tf l own cc nL ret R Q (pc + 2) ls (.int v :: st) q) : XX sh cl K tf l own cc nL ret R Q pc ls st q := by
  intro p e s m args below meth c H locs D ad cI cZ A lsC hx hb hr hlk hml hown hts hKx hK hP hD hS hA hl
  exact lv_iload hx hb d (sx_lat hl h) (k p e s m args below meth c H locs D ad cI cZ A lsC hx hb hr hlk hml hown hts hKx hK hP hD hS hA hl)
theorem sx_lload_n {k9 : Fin 4} {i : Nat} {v : Int64} (d : decode cc pc = .ok (.lload_n k9, 1)) (hi : (k9 : Nat) = i) (h : ls.lookup i = some (.long v)) (k : XX sh cl K tf l own cc nL ret R Q (pc + 1) ls (.long v :: st) q) : XX sh cl K tf l own cc nL ret R Q pc ls st q := by
  intro p e s m args below meth c H locs D ad cI cZ A lsC hx hb hr hlk hml hown hts hKx hK hP hD hS hA hl
  exact lv_lload_n hx hb d hi (sx_lat hl h) (k p e s m args below meth c H locs D ad cI cZ A lsC hx hb hr hlk hml hown hts hKx hK hP hD hS hA hl)
theorem sx_lload {i : Nat} {v : Int64} (d : decode cc pc = .ok (.lload i, 2)) (h : ls.lookup i = some (.long v)) (k : XX sh cl K tf l own cc nL ret R Q (pc + 2) ls (.long v :: st) q) : XX sh cl K tf l own cc nL ret R Q pc ls st q := by
  intro p e s m args below meth c H locs D ad cI cZ A lsC hx hb hr hlk hml hown hts hKx hK hP hD hS hA hl
  exact lv_lload hx hb d (sx_lat hl h) (k p e s m args below meth c H locs D ad cI cZ A lsC hx hb hr hlk hml hown hts hKx hK hP hD hS hA hl)
theorem sx_aload_n {k9 : Fin 4} {i : Nat} {v : Nat} (d : decode cc pc = .ok (.aload_n k9, 1)) (hi : (k9 : Nat) = i) (h : ls.lookup i = some (.ref v)) (k : XX sh cl K tf l own cc nL ret R Q (pc + 1) ls (.ref v :: st) q) : XX sh cl K tf l own cc nL ret R Q pc ls st q := by
  intro p e s m args below meth c H locs D ad cI cZ A lsC hx hb hr hlk hml hown hts hKx hK hP hD hS hA hl
  exact lv_aload_n hx hb d hi (sx_lat hl h) (k p e s m args below meth c H locs D ad cI cZ A lsC hx hb hr hlk hml hown hts hKx hK hP hD hS hA hl)
theorem sx_aload {i : Nat} {v : Nat} (d : decode cc pc = .ok (.aload i, 2)) (h : ls.lookup i = some (.ref v)) (k : XX sh cl K tf l own cc nL ret R Q (pc + 2) ls (.ref v :: st) q) : XX sh cl K tf l own cc nL ret R Q pc ls st q := by
  intro p e s m args below meth c H locs D ad cI cZ A lsC hx hb hr hlk hml hown hts hKx hK hP hD hS hA hl
  exact lv_aload hx hb d (sx_lat hl h) (k p e s m args below meth c H locs D ad cI cZ A lsC hx hb hr hlk hml hown hts hKx hK hP hD hS hA hl)
def sx_st1 (ls : List (Nat × Value)) (i : Nat) (v : Value) : List (Nat × Value) := (i, v) :: ls.filter (fun z => !(z.1 == i) && !(z.1 + 1 == i && z.2.category == 2))
def sx_st2 (ls : List (Nat × Value)) (i : Nat) (v : Value) : List (Nat × Value) := (i, v) :: ls.filter (fun z => !(z.1 == i) && (!(z.1 == i + 1) && !(z.1 + 1 == i && z.2.category == 2)))
theorem sx_st1_map (ad : Nat → Nat) (ls : List (Nat × Value)) (i : Nat) (v : Value) : (i, sx_cz ad v) :: (ls.map (fun z => (z.1, sx_cz ad z.2))).filter (fun z => !(z.1 == i) && !(z.1 + 1 == i && z.2.category == 2)) = (sx_st1 ls i v).map (fun z => (z.1, sx_cz ad z.2)) := by
  simp only [sx_st1, List.map_cons, List.filter_map]
  congr 2
  apply List.filter_congr
  intro z _
  simp only [Function.comp, sx_cz_cat]
theorem sx_st2_map (ad : Nat → Nat) (ls : List (Nat × Value)) (i : Nat) (v : Value) : (i, sx_cz ad v) :: (ls.map (fun z => (z.1, sx_cz ad z.2))).filter (fun z => !(z.1 == i) && (!(z.1 == i + 1) && !(z.1 + 1 == i && z.2.category == 2))) = (sx_st2 ls i v).map (fun z => (z.1, sx_cz ad z.2)) := by
  simp only [sx_st2, List.map_cons, List.filter_map]
  congr 2
  apply List.filter_congr
  intro z _
  simp only [Function.comp, sx_cz_cat]
theorem sx_istore_n {k9 : Fin 4} {i : Nat} {v : Int32} {ls2 : List (Nat × Value)} (d : decode cc pc = .ok (.istore_n k9, 1)) (hi : (k9 : Nat) = i) (hn : i < nL) (h : sx_st1 ls i (.int v) = ls2) (k : XX sh cl K tf l own cc nL ret R Q (pc + 1) ls2 st q) : XX sh cl K tf l own cc nL ret R Q pc ls (.int v :: st) q := by
  intro p e s m args below meth c H locs D ad cI cZ A lsC hx hb hr hlk hml hown hts hKx hK hP hD hS hA hl
  subst h
  exact lv_istore_n hx hb d hi hl hn (sx_st1_map ad ls i (.int v)) (fun lsC hl => (k p e s m args below meth c H locs D ad cI cZ A lsC hx hb hr hlk hml hown hts hKx hK hP hD hS hA hl))
theorem sx_istore {i : Nat} {v : Int32} {ls2 : List (Nat × Value)} (d : decode cc pc = .ok (.istore i, 2)) (hn : i < nL) (h : sx_st1 ls i (.int v) = ls2) (k : XX sh cl K tf l own cc nL ret R Q (pc + 2) ls2 st q) : XX sh cl K tf l own cc nL ret R Q pc ls (.int v :: st) q := by
  intro p e s m args below meth c H locs D ad cI cZ A lsC hx hb hr hlk hml hown hts hKx hK hP hD hS hA hl
  subst h
  exact lv_istore hx hb d hl hn (sx_st1_map ad ls i (.int v)) (fun lsC hl => (k p e s m args below meth c H locs D ad cI cZ A lsC hx hb hr hlk hml hown hts hKx hK hP hD hS hA hl))
theorem sx_lstore_n {k9 : Fin 4} {i : Nat} {v : Int64} {ls2 : List (Nat × Value)} (d : decode cc pc = .ok (.lstore_n k9, 1)) (hi : (k9 : Nat) = i) (hn : i + 1 < nL) (h : sx_st2 ls i (.long v) = ls2) (k : XX sh cl K tf l own cc nL ret R Q (pc + 1) ls2 st q) : XX sh cl K tf l own cc nL ret R Q pc ls (.long v :: st) q := by
  intro p e s m args below meth c H locs D ad cI cZ A lsC hx hb hr hlk hml hown hts hKx hK hP hD hS hA hl
  subst h
  exact lv_lstore_n hx hb d hi hl hn (sx_st2_map ad ls i (.long v)) (fun lsC hl => (k p e s m args below meth c H locs D ad cI cZ A lsC hx hb hr hlk hml hown hts hKx hK hP hD hS hA hl))
theorem sx_lstore {i : Nat} {v : Int64} {ls2 : List (Nat × Value)} (d : decode cc pc = .ok (.lstore i, 2)) (hn : i + 1 < nL) (h : sx_st2 ls i (.long v) = ls2) (k : XX sh cl K tf l own cc nL ret R Q (pc + 2) ls2 st q) : XX sh cl K tf l own cc nL ret R Q pc ls (.long v :: st) q := by
  intro p e s m args below meth c H locs D ad cI cZ A lsC hx hb hr hlk hml hown hts hKx hK hP hD hS hA hl
  subst h
  exact lv_lstore hx hb d hl hn (sx_st2_map ad ls i (.long v)) (fun lsC hl => (k p e s m args below meth c H locs D ad cI cZ A lsC hx hb hr hlk hml hown hts hKx hK hP hD hS hA hl))
theorem sx_astore_n {k9 : Fin 4} {i : Nat} {v : Nat} {ls2 : List (Nat × Value)} (d : decode cc pc = .ok (.astore_n k9, 1)) (hi : (k9 : Nat) = i) (hn : i < nL) (h : sx_st1 ls i (.ref v) = ls2) (k : XX sh cl K tf l own cc nL ret R Q (pc + 1) ls2 st q) : XX sh cl K tf l own cc nL ret R Q pc ls (.ref v :: st) q := by
  intro p e s m args below meth c H locs D ad cI cZ A lsC hx hb hr hlk hml hown hts hKx hK hP hD hS hA hl
  subst h
  exact lv_astore_n hx hb d hi hl hn (sx_st1_map ad ls i (.ref v)) (fun lsC hl => (k p e s m args below meth c H locs D ad cI cZ A lsC hx hb hr hlk hml hown hts hKx hK hP hD hS hA hl))
theorem sx_astore {i : Nat} {v : Nat} {ls2 : List (Nat × Value)} (d : decode cc pc = .ok (.astore i, 2)) (hn : i < nL) (h : sx_st1 ls i (.ref v) = ls2) (k : XX sh cl K tf l own cc nL ret R Q (pc + 2) ls2 st q) : XX sh cl K tf l own cc nL ret R Q pc ls (.ref v :: st) q := by
  intro p e s m args below meth c H locs D ad cI cZ A lsC hx hb hr hlk hml hown hts hKx hK hP hD hS hA hl
  subst h
  exact lv_astore hx hb d hl hn (sx_st1_map ad ls i (.ref v)) (fun lsC hl => (k p e s m args below meth c H locs D ad cI cZ A lsC hx hb hr hlk hml hown hts hKx hK hP hD hS hA hl))
theorem sx_iinc {i k9 : Nat} {n : Int} {x v : Int32} {ls2 : List (Nat × Value)} (d : decode cc pc = .ok (.iinc i n, 3)) (h9 : ls[k9]? = some (i, .int x)) (hv : x + Int32.ofInt n = v) (hn : i < nL) (h : sx_st1 ls i (.int v) = ls2) (k : XX sh cl K tf l own cc nL ret R Q (pc + 3) ls2 st q) : XX sh cl K tf l own cc nL ret R Q pc ls st q := by
  intro p e s m args below meth c H locs D ad cI cZ A lsC hx hb hr hlk hml hown hts hKx hK hP hD hS hA hl
  subst h
  exact lv_iinc hx hb d hl (k := k9) (by rw [List.getElem?_map, h9]; rfl) hv hn (sx_st1_map ad ls i (.int v)) (fun lsC hl => (k p e s m args below meth c H locs D ad cI cZ A lsC hx hb hr hlk hml hown hts hKx hK hP hD hS hA hl))
theorem sx_locs {ls2 : List (Nat × Value)} (ks : List Nat) (h : lv_pick ls ks = ls2) (k : XX sh cl K tf l own cc nL ret R Q pc ls2 st q) : XX sh cl K tf l own cc nL ret R Q pc ls st q := by
  intro p e s m args below meth c H locs D ad cI cZ A lsC hx hb hr hlk hml hown hts hKx hK hP hD hS hA hl
  exact k p e s m args below meth c H locs D ad cI cZ A lsC hx hb hr hlk hml hown hts hKx hK hP hD hS hA (lv_sub hl ks (by subst h; simp [lv_pick, List.map_filterMap, List.getElem?_map]))
theorem sx_iadd {x y : Int32} (d : decode cc pc = .ok (.iadd, 1)) (k : XX sh cl K tf l own cc nL ret R Q (pc + 1) ls (.int (x + y) :: st) q) : XX sh cl K tf l own cc nL ret R Q pc ls (.int y :: .int x :: st) q := by
  intro p e s m args below meth c H locs D ad cI cZ A lsC hx hb hr hlk hml hown hts hKx hK hP hD hS hA hl
  exact lv_iadd hx hb d (k p e s m args below meth c H locs D ad cI cZ A lsC hx hb hr hlk hml hown hts hKx hK hP hD hS hA hl)
theorem sx_isub {x y : Int32} (d : decode cc pc = .ok (.isub, 1)) (k : XX sh cl K tf l own cc nL ret R Q (pc + 1) ls (.int (x - y) :: st) q) : XX sh cl K tf l own cc nL ret R Q pc ls (.int y :: .int x :: st) q := by
  intro p e s m args below meth c H locs D ad cI cZ A lsC hx hb hr hlk hml hown hts hKx hK hP hD hS hA hl
  exact lv_isub hx hb d (k p e s m args below meth c H locs D ad cI cZ A lsC hx hb hr hlk hml hown hts hKx hK hP hD hS hA hl)
theorem sx_imul {x y : Int32} (d : decode cc pc = .ok (.imul, 1)) (k : XX sh cl K tf l own cc nL ret R Q (pc + 1) ls (.int (x * y) :: st) q) : XX sh cl K tf l own cc nL ret R Q pc ls (.int y :: .int x :: st) q := by
  intro p e s m args below meth c H locs D ad cI cZ A lsC hx hb hr hlk hml hown hts hKx hK hP hD hS hA hl
  exact lv_imul hx hb d (k p e s m args below meth c H locs D ad cI cZ A lsC hx hb hr hlk hml hown hts hKx hK hP hD hS hA hl)
theorem sx_iand {x y : Int32} (d : decode cc pc = .ok (.iand, 1)) (k : XX sh cl K tf l own cc nL ret R Q (pc + 1) ls (.int (x &&& y) :: st) q) : XX sh cl K tf l own cc nL ret R Q pc ls (.int y :: .int x :: st) q := by
  intro p e s m args below meth c H locs D ad cI cZ A lsC hx hb hr hlk hml hown hts hKx hK hP hD hS hA hl
  exact lv_iand hx hb d (k p e s m args below meth c H locs D ad cI cZ A lsC hx hb hr hlk hml hown hts hKx hK hP hD hS hA hl)
theorem sx_ior {x y : Int32} (d : decode cc pc = .ok (.ior, 1)) (k : XX sh cl K tf l own cc nL ret R Q (pc + 1) ls (.int (x ||| y) :: st) q) : XX sh cl K tf l own cc nL ret R Q pc ls (.int y :: .int x :: st) q := by
  intro p e s m args below meth c H locs D ad cI cZ A lsC hx hb hr hlk hml hown hts hKx hK hP hD hS hA hl
  exact lv_ior hx hb d (k p e s m args below meth c H locs D ad cI cZ A lsC hx hb hr hlk hml hown hts hKx hK hP hD hS hA hl)
theorem sx_ixor {x y : Int32} (d : decode cc pc = .ok (.ixor, 1)) (k : XX sh cl K tf l own cc nL ret R Q (pc + 1) ls (.int (x ^^^ y) :: st) q) : XX sh cl K tf l own cc nL ret R Q pc ls (.int y :: .int x :: st) q := by
  intro p e s m args below meth c H locs D ad cI cZ A lsC hx hb hr hlk hml hown hts hKx hK hP hD hS hA hl
  exact lv_ixor hx hb d (k p e s m args below meth c H locs D ad cI cZ A lsC hx hb hr hlk hml hown hts hKx hK hP hD hS hA hl)
theorem sx_ishl {x y : Int32} (d : decode cc pc = .ok (.ishl, 1)) (k : XX sh cl K tf l own cc nL ret R Q (pc + 1) ls (.int (x <<< (y &&& 31)) :: st) q) : XX sh cl K tf l own cc nL ret R Q pc ls (.int y :: .int x :: st) q := by
  intro p e s m args below meth c H locs D ad cI cZ A lsC hx hb hr hlk hml hown hts hKx hK hP hD hS hA hl
  exact lv_ishl hx hb d (k p e s m args below meth c H locs D ad cI cZ A lsC hx hb hr hlk hml hown hts hKx hK hP hD hS hA hl)
theorem sx_ishr {x y : Int32} (d : decode cc pc = .ok (.ishr, 1)) (k : XX sh cl K tf l own cc nL ret R Q (pc + 1) ls (.int (x >>> (y &&& 31)) :: st) q) : XX sh cl K tf l own cc nL ret R Q pc ls (.int y :: .int x :: st) q := by
  intro p e s m args below meth c H locs D ad cI cZ A lsC hx hb hr hlk hml hown hts hKx hK hP hD hS hA hl
  exact lv_ishr hx hb d (k p e s m args below meth c H locs D ad cI cZ A lsC hx hb hr hlk hml hown hts hKx hK hP hD hS hA hl)
theorem sx_idiv {x y : Int32} (d : decode cc pc = .ok (.idiv, 1)) (h0 : ¬ y = 0) (k : XX sh cl K tf l own cc nL ret R Q (pc + 1) ls (.int (x / y) :: st) q) : XX sh cl K tf l own cc nL ret R Q pc ls (.int y :: .int x :: st) q := by
  intro p e s m args below meth c H locs D ad cI cZ A lsC hx hb hr hlk hml hown hts hKx hK hP hD hS hA hl
  exact lv_idiv hx hb d h0 (k p e s m args below meth c H locs D ad cI cZ A lsC hx hb hr hlk hml hown hts hKx hK hP hD hS hA hl)
theorem sx_irem {x y : Int32} (d : decode cc pc = .ok (.irem, 1)) (h0 : ¬ y = 0) (k : XX sh cl K tf l own cc nL ret R Q (pc + 1) ls (.int (x - x / y * y) :: st) q) : XX sh cl K tf l own cc nL ret R Q pc ls (.int y :: .int x :: st) q := by
  intro p e s m args below meth c H locs D ad cI cZ A lsC hx hb hr hlk hml hown hts hKx hK hP hD hS hA hl
  exact lv_irem hx hb d h0 (k p e s m args below meth c H locs D ad cI cZ A lsC hx hb hr hlk hml hown hts hKx hK hP hD hS hA hl)
theorem sx_ineg {x : Int32} (d : decode cc pc = .ok (.ineg, 1)) (k : XX sh cl K tf l own cc nL ret R Q (pc + 1) ls (.int (0 - x) :: st) q) : XX sh cl K tf l own cc nL ret R Q pc ls (.int x :: st) q := by
  intro p e s m args below meth c H locs D ad cI cZ A lsC hx hb hr hlk hml hown hts hKx hK hP hD hS hA hl
  exact lv_ineg hx hb d (k p e s m args below meth c H locs D ad cI cZ A lsC hx hb hr hlk hml hown hts hKx hK hP hD hS hA hl)
theorem sx_iushr {x y : Int32} (d : decode cc pc = .ok (.iushr, 1)) (k : XX sh cl K tf l own cc nL ret R Q (pc + 1) ls (.int (x.toUInt32 >>> (y.toUInt32 &&& Int32.toUInt32 31)).toInt32 :: st) q) : XX sh cl K tf l own cc nL ret R Q pc ls (.int y :: .int x :: st) q := by
  intro p e s m args below meth c H locs D ad cI cZ A lsC hx hb hr hlk hml hown hts hKx hK hP hD hS hA hl
  exact lv_iushr hx hb d rfl (k p e s m args below meth c H locs D ad cI cZ A lsC hx hb hr hlk hml hown hts hKx hK hP hD hS hA hl)
theorem sx_ladd {x y : Int64} (d : decode cc pc = .ok (.ladd, 1)) (k : XX sh cl K tf l own cc nL ret R Q (pc + 1) ls (.long (x + y) :: st) q) : XX sh cl K tf l own cc nL ret R Q pc ls (.long y :: .long x :: st) q := by
  intro p e s m args below meth c H locs D ad cI cZ A lsC hx hb hr hlk hml hown hts hKx hK hP hD hS hA hl
  exact lv_ladd hx hb d (k p e s m args below meth c H locs D ad cI cZ A lsC hx hb hr hlk hml hown hts hKx hK hP hD hS hA hl)
theorem sx_lsub {x y : Int64} (d : decode cc pc = .ok (.lsub, 1)) (k : XX sh cl K tf l own cc nL ret R Q (pc + 1) ls (.long (x - y) :: st) q) : XX sh cl K tf l own cc nL ret R Q pc ls (.long y :: .long x :: st) q := by
  intro p e s m args below meth c H locs D ad cI cZ A lsC hx hb hr hlk hml hown hts hKx hK hP hD hS hA hl
  exact lv_lsub hx hb d (k p e s m args below meth c H locs D ad cI cZ A lsC hx hb hr hlk hml hown hts hKx hK hP hD hS hA hl)
theorem sx_lmul {x y : Int64} (d : decode cc pc = .ok (.lmul, 1)) (k : XX sh cl K tf l own cc nL ret R Q (pc + 1) ls (.long (x * y) :: st) q) : XX sh cl K tf l own cc nL ret R Q pc ls (.long y :: .long x :: st) q := by
  intro p e s m args below meth c H locs D ad cI cZ A lsC hx hb hr hlk hml hown hts hKx hK hP hD hS hA hl
  exact lv_lmul hx hb d (k p e s m args below meth c H locs D ad cI cZ A lsC hx hb hr hlk hml hown hts hKx hK hP hD hS hA hl)
theorem sx_land {x y : Int64} (d : decode cc pc = .ok (.land, 1)) (k : XX sh cl K tf l own cc nL ret R Q (pc + 1) ls (.long (x &&& y) :: st) q) : XX sh cl K tf l own cc nL ret R Q pc ls (.long y :: .long x :: st) q := by
  intro p e s m args below meth c H locs D ad cI cZ A lsC hx hb hr hlk hml hown hts hKx hK hP hD hS hA hl
  exact lv_land hx hb d (k p e s m args below meth c H locs D ad cI cZ A lsC hx hb hr hlk hml hown hts hKx hK hP hD hS hA hl)
theorem sx_lor {x y : Int64} (d : decode cc pc = .ok (.lor, 1)) (k : XX sh cl K tf l own cc nL ret R Q (pc + 1) ls (.long (x ||| y) :: st) q) : XX sh cl K tf l own cc nL ret R Q pc ls (.long y :: .long x :: st) q := by
  intro p e s m args below meth c H locs D ad cI cZ A lsC hx hb hr hlk hml hown hts hKx hK hP hD hS hA hl
  exact lv_lor hx hb d (k p e s m args below meth c H locs D ad cI cZ A lsC hx hb hr hlk hml hown hts hKx hK hP hD hS hA hl)
theorem sx_lneg {x : Int64} (d : decode cc pc = .ok (.lneg, 1)) (k : XX sh cl K tf l own cc nL ret R Q (pc + 1) ls (.long (0 - x) :: st) q) : XX sh cl K tf l own cc nL ret R Q pc ls (.long x :: st) q := by
  intro p e s m args below meth c H locs D ad cI cZ A lsC hx hb hr hlk hml hown hts hKx hK hP hD hS hA hl
  exact lv_lneg hx hb d (k p e s m args below meth c H locs D ad cI cZ A lsC hx hb hr hlk hml hown hts hKx hK hP hD hS hA hl)
theorem sx_lcmp {x y : Int64} (d : decode cc pc = .ok (.lcmp, 1)) (k : XX sh cl K tf l own cc nL ret R Q (pc + 1) ls (.int (lg_cmp x y) :: st) q) : XX sh cl K tf l own cc nL ret R Q pc ls (.long y :: .long x :: st) q := by
  intro p e s m args below meth c H locs D ad cI cZ A lsC hx hb hr hlk hml hown hts hKx hK hP hD hS hA hl
  exact W.lcmp hx hb d (k p e s m args below meth c H locs D ad cI cZ A lsC hx hb hr hlk hml hown hts hKx hK hP hD hS hA hl)
theorem sx_i2l {x : Int32} (d : decode cc pc = .ok (.i2l, 1)) (k : XX sh cl K tf l own cc nL ret R Q (pc + 1) ls (.long x.toInt64 :: st) q) : XX sh cl K tf l own cc nL ret R Q pc ls (.int x :: st) q := by
  intro p e s m args below meth c H locs D ad cI cZ A lsC hx hb hr hlk hml hown hts hKx hK hP hD hS hA hl
  exact lv_i2l hx hb d rfl (k p e s m args below meth c H locs D ad cI cZ A lsC hx hb hr hlk hml hown hts hKx hK hP hD hS hA hl)
theorem sx_l2i {x : Int64} (d : decode cc pc = .ok (.l2i, 1)) (k : XX sh cl K tf l own cc nL ret R Q (pc + 1) ls (.int x.toInt32 :: st) q) : XX sh cl K tf l own cc nL ret R Q pc ls (.long x :: st) q := by
  intro p e s m args below meth c H locs D ad cI cZ A lsC hx hb hr hlk hml hown hts hKx hK hP hD hS hA hl
  exact lv_l2i hx hb d rfl (k p e s m args below meth c H locs D ad cI cZ A lsC hx hb hr hlk hml hown hts hKx hK hP hD hS hA hl)
theorem sx_lushr {x : Int64} {y : Int32} (d : decode cc pc = .ok (.lushr, 1)) (k : XX sh cl K tf l own cc nL ret R Q (pc + 1) ls (.long (x.toUInt64 >>> (y.toInt64.toUInt64 &&& Int64.toUInt64 63)).toInt64 :: st) q) : XX sh cl K tf l own cc nL ret R Q pc ls (.int y :: .long x :: st) q := by
  intro p e s m args below meth c H locs D ad cI cZ A lsC hx hb hr hlk hml hown hts hKx hK hP hD hS hA hl
  exact lv_lushr hx hb d rfl (k p e s m args below meth c H locs D ad cI cZ A lsC hx hb hr hlk hml hown hts hKx hK hP hD hS hA hl)
theorem sx_lshr {x : Int64} {y : Int32} (d : decode cc pc = .ok (.lshr, 1)) (k : XX sh cl K tf l own cc nL ret R Q (pc + 1) ls (.long (x >>> (y.toInt64 &&& 63)) :: st) q) : XX sh cl K tf l own cc nL ret R Q pc ls (.int y :: .long x :: st) q := by
  intro p e s m args below meth c H locs D ad cI cZ A lsC hx hb hr hlk hml hown hts hKx hK hP hD hS hA hl
  exact lv_lshr hx hb d rfl (k p e s m args below meth c H locs D ad cI cZ A lsC hx hb hr hlk hml hown hts hKx hK hP hD hS hA hl)
theorem sx_lshl {x : Int64} {y : Int32} (d : decode cc pc = .ok (.lshl, 1)) (k : XX sh cl K tf l own cc nL ret R Q (pc + 1) ls (.long (x <<< (y.toInt64 &&& 63)) :: st) q) : XX sh cl K tf l own cc nL ret R Q pc ls (.int y :: .long x :: st) q := by
  intro p e s m args below meth c H locs D ad cI cZ A lsC hx hb hr hlk hml hown hts hKx hK hP hD hS hA hl
  exact lv_lshl hx hb d rfl (k p e s m args below meth c H locs D ad cI cZ A lsC hx hb hr hlk hml hown hts hKx hK hP hD hS hA hl)
theorem sx_dup {v : Value} (d : decode cc pc = .ok (.dup, 1)) (hv : v.category = 1) (k : XX sh cl K tf l own cc nL ret R Q (pc + 1) ls (v :: v :: st) q) : XX sh cl K tf l own cc nL ret R Q pc ls (v :: st) q := by
  intro p e s m args below meth c H locs D ad cI cZ A lsC hx hb hr hlk hml hown hts hKx hK hP hD hS hA hl
  exact lv_dup hx hb d (by rw [sx_cz_cat]; exact hv) (k p e s m args below meth c H locs D ad cI cZ A lsC hx hb hr hlk hml hown hts hKx hK hP hD hS hA hl)
theorem sx_pop {v : Value} (d : decode cc pc = .ok (.pop, 1)) (hv : v.category = 1) (k : XX sh cl K tf l own cc nL ret R Q (pc + 1) ls st q) : XX sh cl K tf l own cc nL ret R Q pc ls (v :: st) q := by
  intro p e s m args below meth c H locs D ad cI cZ A lsC hx hb hr hlk hml hown hts hKx hK hP hD hS hA hl
  exact lv_pop hx hb d (by rw [sx_cz_cat]; exact hv) (k p e s m args below meth c H locs D ad cI cZ A lsC hx hb hr hlk hml hown hts hKx hK hP hD hS hA hl)
theorem sx_dup2_11 {v w : Value} (d : decode cc pc = .ok (.dup2, 1)) (hv : v.category = 1) (hw : w.category = 1) (k : XX sh cl K tf l own cc nL ret R Q (pc + 1) ls (v :: w :: v :: w :: st) q) : XX sh cl K tf l own cc nL ret R Q pc ls (v :: w :: st) q := by
  intro p e s m args below meth c H locs D ad cI cZ A lsC hx hb hr hlk hml hown hts hKx hK hP hD hS hA hl
  exact lv_dup2_11 hx hb d (by rw [sx_cz_cat]; exact hv) (by rw [sx_cz_cat]; exact hw) (k p e s m args below meth c H locs D ad cI cZ A lsC hx hb hr hlk hml hown hts hKx hK hP hD hS hA hl)
theorem sx_if_eq {x : Int32} {off : Int} {tgt : Nat} (d : decode cc pc = .ok (.ifCond .eq off, 3)) (ht : (pc : Int) + off = (tgt : Int)) (kt : x = 0 → XX sh cl K tf l own cc nL ret R Q tgt ls st q) (kf : ¬ (x = 0) → XX sh cl K tf l own cc nL ret R Q (pc + 3) ls st q) : XX sh cl K tf l own cc nL ret R Q pc ls (.int x :: st) q := by
  intro p e s m args below meth c H locs D ad cI cZ A lsC hx hb hr hlk hml hown hts hKx hK hP hD hS hA hl
  exact lv_if_eq hx hb d ht (fun h => (kt h p e s m args below meth c H locs D ad cI cZ A lsC hx hb hr hlk hml hown hts hKx hK hP hD hS hA hl)) (fun h => (kf h p e s m args below meth c H locs D ad cI cZ A lsC hx hb hr hlk hml hown hts hKx hK hP hD hS hA hl))
theorem sx_if_ne {x : Int32} {off : Int} {tgt : Nat} (d : decode cc pc = .ok (.ifCond .ne off, 3)) (ht : (pc : Int) + off = (tgt : Int)) (kt : ¬ x = 0 → XX sh cl K tf l own cc nL ret R Q tgt ls st q) (kf : x = 0 → XX sh cl K tf l own cc nL ret R Q (pc + 3) ls st q) : XX sh cl K tf l own cc nL ret R Q pc ls (.int x :: st) q := by
  intro p e s m args below meth c H locs D ad cI cZ A lsC hx hb hr hlk hml hown hts hKx hK hP hD hS hA hl
  exact lv_if_ne hx hb d ht (fun h => (kt h p e s m args below meth c H locs D ad cI cZ A lsC hx hb hr hlk hml hown hts hKx hK hP hD hS hA hl)) (fun h => (kf h p e s m args below meth c H locs D ad cI cZ A lsC hx hb hr hlk hml hown hts hKx hK hP hD hS hA hl))
theorem sx_if_lt {x : Int32} {off : Int} {tgt : Nat} (d : decode cc pc = .ok (.ifCond .lt off, 3)) (ht : (pc : Int) + off = (tgt : Int)) (kt : x < 0 → XX sh cl K tf l own cc nL ret R Q tgt ls st q) (kf : ¬ (x < 0) → XX sh cl K tf l own cc nL ret R Q (pc + 3) ls st q) : XX sh cl K tf l own cc nL ret R Q pc ls (.int x :: st) q := by
  intro p e s m args below meth c H locs D ad cI cZ A lsC hx hb hr hlk hml hown hts hKx hK hP hD hS hA hl
  exact lv_if_lt hx hb d ht (fun h => (kt h p e s m args below meth c H locs D ad cI cZ A lsC hx hb hr hlk hml hown hts hKx hK hP hD hS hA hl)) (fun h => (kf h p e s m args below meth c H locs D ad cI cZ A lsC hx hb hr hlk hml hown hts hKx hK hP hD hS hA hl))
theorem sx_if_ge {x : Int32} {off : Int} {tgt : Nat} (d : decode cc pc = .ok (.ifCond .ge off, 3)) (ht : (pc : Int) + off = (tgt : Int)) (kt : 0 ≤ x → XX sh cl K tf l own cc nL ret R Q tgt ls st q) (kf : ¬ (0 ≤ x) → XX sh cl K tf l own cc nL ret R Q (pc + 3) ls st q) : XX sh cl K tf l own cc nL ret R Q pc ls (.int x :: st) q := by
  intro p e s m args below meth c H locs D ad cI cZ A lsC hx hb hr hlk hml hown hts hKx hK hP hD hS hA hl
  exact lv_if_ge hx hb d ht (fun h => (kt h p e s m args below meth c H locs D ad cI cZ A lsC hx hb hr hlk hml hown hts hKx hK hP hD hS hA hl)) (fun h => (kf h p e s m args below meth c H locs D ad cI cZ A lsC hx hb hr hlk hml hown hts hKx hK hP hD hS hA hl))
theorem sx_if_gt {x : Int32} {off : Int} {tgt : Nat} (d : decode cc pc = .ok (.ifCond .gt off, 3)) (ht : (pc : Int) + off = (tgt : Int)) (kt : 0 < x → XX sh cl K tf l own cc nL ret R Q tgt ls st q) (kf : ¬ (0 < x) → XX sh cl K tf l own cc nL ret R Q (pc + 3) ls st q) : XX sh cl K tf l own cc nL ret R Q pc ls (.int x :: st) q := by
  intro p e s m args below meth c H locs D ad cI cZ A lsC hx hb hr hlk hml hown hts hKx hK hP hD hS hA hl
  exact lv_if_gt hx hb d ht (fun h => (kt h p e s m args below meth c H locs D ad cI cZ A lsC hx hb hr hlk hml hown hts hKx hK hP hD hS hA hl)) (fun h => (kf h p e s m args below meth c H locs D ad cI cZ A lsC hx hb hr hlk hml hown hts hKx hK hP hD hS hA hl))
theorem sx_if_le {x : Int32} {off : Int} {tgt : Nat} (d : decode cc pc = .ok (.ifCond .le off, 3)) (ht : (pc : Int) + off = (tgt : Int)) (kt : x ≤ 0 → XX sh cl K tf l own cc nL ret R Q tgt ls st q) (kf : ¬ (x ≤ 0) → XX sh cl K tf l own cc nL ret R Q (pc + 3) ls st q) : XX sh cl K tf l own cc nL ret R Q pc ls (.int x :: st) q := by
  intro p e s m args below meth c H locs D ad cI cZ A lsC hx hb hr hlk hml hown hts hKx hK hP hD hS hA hl
  exact lv_if_le hx hb d ht (fun h => (kt h p e s m args below meth c H locs D ad cI cZ A lsC hx hb hr hlk hml hown hts hKx hK hP hD hS hA hl)) (fun h => (kf h p e s m args below meth c H locs D ad cI cZ A lsC hx hb hr hlk hml hown hts hKx hK hP hD hS hA hl))
theorem sx_icmp_eq {x y : Int32} {off : Int} {tgt : Nat} (d : decode cc pc = .ok (.if_icmp .eq off, 3)) (ht : (pc : Int) + off = (tgt : Int)) (kt : x = y → XX sh cl K tf l own cc nL ret R Q tgt ls st q) (kf : ¬ (x = y) → XX sh cl K tf l own cc nL ret R Q (pc + 3) ls st q) : XX sh cl K tf l own cc nL ret R Q pc ls (.int y :: .int x :: st) q := by
  intro p e s m args below meth c H locs D ad cI cZ A lsC hx hb hr hlk hml hown hts hKx hK hP hD hS hA hl
  exact lv_icmp_eq hx hb d ht (fun h => (kt h p e s m args below meth c H locs D ad cI cZ A lsC hx hb hr hlk hml hown hts hKx hK hP hD hS hA hl)) (fun h => (kf h p e s m args below meth c H locs D ad cI cZ A lsC hx hb hr hlk hml hown hts hKx hK hP hD hS hA hl))
theorem sx_icmp_ne {x y : Int32} {off : Int} {tgt : Nat} (d : decode cc pc = .ok (.if_icmp .ne off, 3)) (ht : (pc : Int) + off = (tgt : Int)) (kt : ¬ x = y → XX sh cl K tf l own cc nL ret R Q tgt ls st q) (kf : x = y → XX sh cl K tf l own cc nL ret R Q (pc + 3) ls st q) : XX sh cl K tf l own cc nL ret R Q pc ls (.int y :: .int x :: st) q := by
  intro p e s m args below meth c H locs D ad cI cZ A lsC hx hb hr hlk hml hown hts hKx hK hP hD hS hA hl
  exact lv_icmp_ne hx hb d ht (fun h => (kt h p e s m args below meth c H locs D ad cI cZ A lsC hx hb hr hlk hml hown hts hKx hK hP hD hS hA hl)) (fun h => (kf h p e s m args below meth c H locs D ad cI cZ A lsC hx hb hr hlk hml hown hts hKx hK hP hD hS hA hl))
theorem sx_icmp_lt {x y : Int32} {off : Int} {tgt : Nat} (d : decode cc pc = .ok (.if_icmp .lt off, 3)) (ht : (pc : Int) + off = (tgt : Int)) (kt : x < y → XX sh cl K tf l own cc nL ret R Q tgt ls st q) (kf : ¬ (x < y) → XX sh cl K tf l own cc nL ret R Q (pc + 3) ls st q) : XX sh cl K tf l own cc nL ret R Q pc ls (.int y :: .int x :: st) q := by
  intro p e s m args below meth c H locs D ad cI cZ A lsC hx hb hr hlk hml hown hts hKx hK hP hD hS hA hl
  exact lv_icmp_lt hx hb d ht (fun h => (kt h p e s m args below meth c H locs D ad cI cZ A lsC hx hb hr hlk hml hown hts hKx hK hP hD hS hA hl)) (fun h => (kf h p e s m args below meth c H locs D ad cI cZ A lsC hx hb hr hlk hml hown hts hKx hK hP hD hS hA hl))
theorem sx_icmp_ge {x y : Int32} {off : Int} {tgt : Nat} (d : decode cc pc = .ok (.if_icmp .ge off, 3)) (ht : (pc : Int) + off = (tgt : Int)) (kt : y ≤ x → XX sh cl K tf l own cc nL ret R Q tgt ls st q) (kf : ¬ (y ≤ x) → XX sh cl K tf l own cc nL ret R Q (pc + 3) ls st q) : XX sh cl K tf l own cc nL ret R Q pc ls (.int y :: .int x :: st) q := by
  intro p e s m args below meth c H locs D ad cI cZ A lsC hx hb hr hlk hml hown hts hKx hK hP hD hS hA hl
  exact lv_icmp_ge hx hb d ht (fun h => (kt h p e s m args below meth c H locs D ad cI cZ A lsC hx hb hr hlk hml hown hts hKx hK hP hD hS hA hl)) (fun h => (kf h p e s m args below meth c H locs D ad cI cZ A lsC hx hb hr hlk hml hown hts hKx hK hP hD hS hA hl))
theorem sx_icmp_gt {x y : Int32} {off : Int} {tgt : Nat} (d : decode cc pc = .ok (.if_icmp .gt off, 3)) (ht : (pc : Int) + off = (tgt : Int)) (kt : y < x → XX sh cl K tf l own cc nL ret R Q tgt ls st q) (kf : ¬ (y < x) → XX sh cl K tf l own cc nL ret R Q (pc + 3) ls st q) : XX sh cl K tf l own cc nL ret R Q pc ls (.int y :: .int x :: st) q := by
  intro p e s m args below meth c H locs D ad cI cZ A lsC hx hb hr hlk hml hown hts hKx hK hP hD hS hA hl
  exact lv_icmp_gt hx hb d ht (fun h => (kt h p e s m args below meth c H locs D ad cI cZ A lsC hx hb hr hlk hml hown hts hKx hK hP hD hS hA hl)) (fun h => (kf h p e s m args below meth c H locs D ad cI cZ A lsC hx hb hr hlk hml hown hts hKx hK hP hD hS hA hl))
theorem sx_icmp_le {x y : Int32} {off : Int} {tgt : Nat} (d : decode cc pc = .ok (.if_icmp .le off, 3)) (ht : (pc : Int) + off = (tgt : Int)) (kt : x ≤ y → XX sh cl K tf l own cc nL ret R Q tgt ls st q) (kf : ¬ (x ≤ y) → XX sh cl K tf l own cc nL ret R Q (pc + 3) ls st q) : XX sh cl K tf l own cc nL ret R Q pc ls (.int y :: .int x :: st) q := by
  intro p e s m args below meth c H locs D ad cI cZ A lsC hx hb hr hlk hml hown hts hKx hK hP hD hS hA hl
  exact lv_icmp_le hx hb d ht (fun h => (kt h p e s m args below meth c H locs D ad cI cZ A lsC hx hb hr hlk hml hown hts hKx hK hP hD hS hA hl)) (fun h => (kf h p e s m args below meth c H locs D ad cI cZ A lsC hx hb hr hlk hml hown hts hKx hK hP hD hS hA hl))
theorem sx_goto {off : Int} {tgt : Nat} (d : decode cc pc = .ok (.goto off, 3)) (ht : (pc : Int) + off = (tgt : Int)) (k : XX sh cl K tf l own cc nL ret R Q (tgt) ls st q) : XX sh cl K tf l own cc nL ret R Q pc ls st q := by
  intro p e s m args below meth c H locs D ad cI cZ A lsC hx hb hr hlk hml hown hts hKx hK hP hD hS hA hl
  exact lv_goto hx hb d ht (k p e s m args below meth c H locs D ad cI cZ A lsC hx hb hr hlk hml hown hts hKx hK hP hD hS hA hl)
theorem sx_tblOut {dflt lo hi : Int} {offs : Array Int} {len : Nat} {x : Int32} {tgt : Nat} (d : decode cc pc = .ok (.tableswitch dflt lo hi offs, len)) (h : x.toInt < lo ∨ hi < x.toInt) (ht : (pc : Int) + dflt = (tgt : Int)) (k : XX sh cl K tf l own cc nL ret R Q (tgt) ls st q) : XX sh cl K tf l own cc nL ret R Q pc ls (.int x :: st) q := by
  intro p e s m args below meth c H locs D ad cI cZ A lsC hx hb hr hlk hml hown hts hKx hK hP hD hS hA hl
  exact lv_tableOut hx hb d h ht (k p e s m args below meth c H locs D ad cI cZ A lsC hx hb hr hlk hml hown hts hKx hK hP hD hS hA hl)
theorem sx_tblIn {dflt lo hi : Int} {offs : Array Int} {len : Nat} {x : Int32} {off : Int} {tgt : Nat} (d : decode cc pc = .ok (.tableswitch dflt lo hi offs, len)) (h1 : ¬ x.toInt < lo) (h2 : ¬ hi < x.toInt) (ho : offs[(x.toInt - lo).toNat]? = some off) (ht : (pc : Int) + off = (tgt : Int)) (k : XX sh cl K tf l own cc nL ret R Q (tgt) ls st q) : XX sh cl K tf l own cc nL ret R Q pc ls (.int x :: st) q := by
  intro p e s m args below meth c H locs D ad cI cZ A lsC hx hb hr hlk hml hown hts hKx hK hP hD hS hA hl
  exact lv_tableIn hx hb d h1 h2 ho ht (k p e s m args below meth c H locs D ad cI cZ A lsC hx hb hr hlk hml hown hts hKx hK hP hD hS hA hl)
/-- what the tables say of a class of the world -/
def sx_CB (cl : List vw_C) (ci : Nat) (C : String) (T : u_T) (N : Nat) (ty : Nat → FieldType) : Prop := cl[ci]? = some (C, T, N) ∧ (∀ w ∈ u_ws C T N, w ∈ GG) ∧ (∀ k, k < N → parseFieldDescriptor (T k).2.2.1 = some (ty k)) ∧ (∀ a, a < N → ∀ b, b < N → a ≠ b → (T a).2.1 ≠ (T b).2.1)
/-- a use of a field: class ci's k-th, at the constant n of the class own -/
def sx_FL (own : String) (n : Nat) (C : String) (T : u_T) (N k : Nat) : Prop := k < N ∧ (T k).1 = C ∧ Cond.fieldLink own n C (T k).2.1 (T k).2.2.1 ∈ GG
theorem sx_getI {o ci k9 n N : Nat} {fs : List sx_F} {C : String} {T : u_T} {ty : Nat → FieldType}  (d : decode cc pc = .ok (.getfield n, 3)) (hs : sh[o]? = some (.inr (ci, fs))) (hf : fs[k9]? = some (.inr false)) (cb : sx_CB cl ci C T N ty) (fl : sx_FL own n C T N k9) (k : XX sh cl K tf l own cc nL ret R Q (pc + 3) ls (.int (gI q o k9) :: st) q) : XX sh cl K tf l own cc nL ret R Q pc ls (.ref o :: st) q := by
  intro p e s m args below meth c H locs D ad cI cZ A lsC hx hb hr hlk hml hown hts hKx hK hP hD hS hA hl
  exact va_get hx hb hts cb.2.1 hown hK hP o (sx_getO hs) cb.1 k9 fl.1 (hts _ fl.2.2) (fun _ h9 => by rw [fl.2.1] at h9; exact h9) (sx_fld hf) d (k p e s m args below meth c H locs D ad cI cZ A lsC hx hb hr hlk hml hown hts hKx hK hP hD hS hA hl)
theorem sx_getL {o ci k9 n N : Nat} {fs : List sx_F} {C : String} {T : u_T} {ty : Nat → FieldType}  (d : decode cc pc = .ok (.getfield n, 3)) (hs : sh[o]? = some (.inr (ci, fs))) (hf : fs[k9]? = some (.inr true)) (cb : sx_CB cl ci C T N ty) (fl : sx_FL own n C T N k9) (k : XX sh cl K tf l own cc nL ret R Q (pc + 3) ls (.long (gL q o k9) :: st) q) : XX sh cl K tf l own cc nL ret R Q pc ls (.ref o :: st) q := by
  intro p e s m args below meth c H locs D ad cI cZ A lsC hx hb hr hlk hml hown hts hKx hK hP hD hS hA hl
  exact va_get hx hb hts cb.2.1 hown hK hP o (sx_getO hs) cb.1 k9 fl.1 (hts _ fl.2.2) (fun _ h9 => by rw [fl.2.1] at h9; exact h9) (sx_fld hf) d (k p e s m args below meth c H locs D ad cI cZ A lsC hx hb hr hlk hml hown hts hKx hK hP hD hS hA hl)
theorem sx_getR {o ci k9 n N : Nat} {fs : List sx_F} {C : String} {T : u_T} {ty : Nat → FieldType} {r : Nat} (d : decode cc pc = .ok (.getfield n, 3)) (hs : sh[o]? = some (.inr (ci, fs))) (hf : fs[k9]? = some (.inl r)) (cb : sx_CB cl ci C T N ty) (fl : sx_FL own n C T N k9) (k : XX sh cl K tf l own cc nL ret R Q (pc + 3) ls (.ref r :: st) q) : XX sh cl K tf l own cc nL ret R Q pc ls (.ref o :: st) q := by
  intro p e s m args below meth c H locs D ad cI cZ A lsC hx hb hr hlk hml hown hts hKx hK hP hD hS hA hl
  exact va_get hx hb hts cb.2.1 hown hK hP o (sx_getO hs) cb.1 k9 fl.1 (hts _ fl.2.2) (fun _ h9 => by rw [fl.2.1] at h9; exact h9) (sx_fld hf) d (k p e s m args below meth c H locs D ad cI cZ A lsC hx hb hr hlk hml hown hts hKx hK hP hD hS hA hl)
theorem sx_putI {o ci k9 n N : Nat} {fs : List sx_F} {C : String} {T : u_T} {ty : Nat → FieldType} {v : Int32} (d : decode cc pc = .ok (.putfield n, 3)) (hs : sh[o]? = some (.inr (ci, fs))) (hf : fs[k9]? = some (.inr false)) (cb : sx_CB cl ci C T N ty) (fl : sx_FL own n C T N k9) (hfin : (T k9).2.2.2 = false) (hd : parseFieldDescriptor (T k9).2.2.1 = some .int) (k : XX sh cl K tf l own cc nL ret R Q (pc + 3) ls st (sI q o k9 v)) : XX sh cl K tf l own cc nL ret R Q pc ls (.int v :: .ref o :: st) q := by
  intro p e s m args below meth c H locs D ad cI cZ A lsC hx hb hr hlk hml hown hts hKx hK hP hD hS hA hl
  exact va_put (v := .int v) (ty := .int) hx hb hts cb.2.1 ty cb.2.2.1 cb.2.2.2 hown hK hP hD hS o (sx_getO hs) cb.1 k9 fl.1 (hts _ fl.2.2) (fun _ h9 => by rw [fl.2.1] at h9; exact h9) hfin hd rfl rfl (by rw [List.length_mapIdx]; exact (List.getElem?_eq_some_iff.mp hf).1) d (fun H locs hP hD hS => by rw [sx_setI v hs hf] at hP hD; exact (k p e s m args below meth c H locs D ad cI cZ A lsC hx hb hr hlk hml hown hts hKx hK hP hD hS hA hl))
theorem sx_putZ {o ci k9 n N : Nat} {fs : List sx_F} {C : String} {T : u_T} {ty : Nat → FieldType} {v : Int32} (d : decode cc pc = .ok (.putfield n, 3)) (hs : sh[o]? = some (.inr (ci, fs))) (hf : fs[k9]? = some (.inr false)) (cb : sx_CB cl ci C T N ty) (fl : sx_FL own n C T N k9) (hfin : (T k9).2.2.2 = false) (hd : parseFieldDescriptor (T k9).2.2.1 = some .boolean) (hz : v = 0 ∨ v = 1) (k : XX sh cl K tf l own cc nL ret R Q (pc + 3) ls st (sI q o k9 v)) : XX sh cl K tf l own cc nL ret R Q pc ls (.int v :: .ref o :: st) q := by
  intro p e s m args below meth c H locs D ad cI cZ A lsC hx hb hr hlk hml hown hts hKx hK hP hD hS hA hl
  exact va_put (v := .int v) (ty := .boolean) hx hb hts cb.2.1 ty cb.2.2.1 cb.2.2.2 hown hK hP hD hS o (sx_getO hs) cb.1 k9 fl.1 (hts _ fl.2.2) (fun _ h9 => by rw [fl.2.1] at h9; exact h9) hfin hd (by rcases hz with rfl | rfl <;> rfl) (by rcases hz with rfl | rfl <;> rfl) (by rw [List.length_mapIdx]; exact (List.getElem?_eq_some_iff.mp hf).1) d (fun H locs hP hD hS => by rw [sx_setI v hs hf] at hP hD; exact (k p e s m args below meth c H locs D ad cI cZ A lsC hx hb hr hlk hml hown hts hKx hK hP hD hS hA hl))
theorem sx_putL {o ci k9 n N : Nat} {fs : List sx_F} {C : String} {T : u_T} {ty : Nat → FieldType} {v : Int64} (d : decode cc pc = .ok (.putfield n, 3)) (hs : sh[o]? = some (.inr (ci, fs))) (hf : fs[k9]? = some (.inr true)) (cb : sx_CB cl ci C T N ty) (fl : sx_FL own n C T N k9) (hfin : (T k9).2.2.2 = false) (hd : parseFieldDescriptor (T k9).2.2.1 = some .long) (k : XX sh cl K tf l own cc nL ret R Q (pc + 3) ls st (sL q o k9 v)) : XX sh cl K tf l own cc nL ret R Q pc ls (.long v :: .ref o :: st) q := by
  intro p e s m args below meth c H locs D ad cI cZ A lsC hx hb hr hlk hml hown hts hKx hK hP hD hS hA hl
  exact va_put (v := .long v) (ty := .long) hx hb hts cb.2.1 ty cb.2.2.1 cb.2.2.2 hown hK hP hD hS o (sx_getO hs) cb.1 k9 fl.1 (hts _ fl.2.2) (fun _ h9 => by rw [fl.2.1] at h9; exact h9) hfin hd rfl rfl (by rw [List.length_mapIdx]; exact (List.getElem?_eq_some_iff.mp hf).1) d (fun H locs hP hD hS => by rw [sx_setL v hs hf] at hP hD; exact (k p e s m args below meth c H locs D ad cI cZ A lsC hx hb hr hlk hml hown hts hKx hK hP hD hS hA hl))
theorem sx_iald {o n : Nat} {i : Int32} (d : decode cc pc = .ok (.iaload, 1)) (hs : sh[o]? = some (.inl (false, n))) (ht : ∀ a b, (tf a b)[0]? = some (a, .int)) (hi : vp_in i n) (k : XX sh cl K tf l own cc nL ret R Q (pc + 1) ls (.int (gI q o i.toNatClampNeg) :: st) q) : XX sh cl K tf l own cc nL ret R Q pc ls (.int i :: .ref o :: st) q := by
  intro p e s m args below meth c H locs D ad cI cZ A lsC hx hb hr hlk hml hown hts hKx hK hP hD hS hA hl
  exact va_iald hx hb hK hP o 0 (sx_getA hs) (ht _ _) hi d (k p e s m args below meth c H locs D ad cI cZ A lsC hx hb hr hlk hml hown hts hKx hK hP hD hS hA hl)
theorem sx_iast {o n : Nat} {i v : Int32} (d : decode cc pc = .ok (.iastore, 1)) (hs : sh[o]? = some (.inl (false, n))) (ht : ∀ a b, (tf a b)[0]? = some (a, .int)) (hi : vp_in i n) (k : XX sh cl K tf l own cc nL ret R Q (pc + 1) ls st (sI q o i.toNatClampNeg v)) : XX sh cl K tf l own cc nL ret R Q pc ls (.int v :: .int i :: .ref o :: st) q := by
  intro p e s m args below meth c H locs D ad cI cZ A lsC hx hb hr hlk hml hown hts hKx hK hP hD hS hA hl
  exact va_iast hx hb hK hP hD hS o 0 (sx_getA hs) (ht _ _) hi d (fun H locs hP hD hS => by have ee := sx_setA (cI := cI) (cZ := cZ) (ad := ad) (q := q) i.toNatClampNeg v hs; simp only [Bool.false_eq_true, if_false] at ee hP hD; rw [ee] at hP hD; exact (k p e s m args below meth c H locs D ad cI cZ A lsC hx hb hr hlk hml hown hts hKx hK hP hD hS hA hl))
theorem sx_zald {o n : Nat} {i : Int32} (d : decode cc pc = .ok (.baload, 1)) (hs : sh[o]? = some (.inl (true, n))) (ht : ∀ a b, (tf a b)[1]? = some (b, .boolean)) (hi : vp_in i n) (k : XX sh cl K tf l own cc nL ret R Q (pc + 1) ls (.int (gI q o i.toNatClampNeg) :: st) q) : XX sh cl K tf l own cc nL ret R Q pc ls (.int i :: .ref o :: st) q := by
  intro p e s m args below meth c H locs D ad cI cZ A lsC hx hb hr hlk hml hown hts hKx hK hP hD hS hA hl
  exact va_zald hx hb hK hP o 1 (sx_getA hs) (ht _ _) hi d (k p e s m args below meth c H locs D ad cI cZ A lsC hx hb hr hlk hml hown hts hKx hK hP hD hS hA hl)
theorem sx_zast {o n : Nat} {i v : Int32} (d : decode cc pc = .ok (.bastore, 1)) (hs : sh[o]? = some (.inl (true, n))) (ht : ∀ a b, (tf a b)[1]? = some (b, .boolean)) (hi : vp_in i n) (k : XX sh cl K tf l own cc nL ret R Q (pc + 1) ls st (sI q o i.toNatClampNeg (vp_nar .boolean v))) : XX sh cl K tf l own cc nL ret R Q pc ls (.int v :: .int i :: .ref o :: st) q := by
  intro p e s m args below meth c H locs D ad cI cZ A lsC hx hb hr hlk hml hown hts hKx hK hP hD hS hA hl
  exact va_zast hx hb hK hP hD hS o 1 (sx_getA hs) (ht _ _) hi d (fun H locs hP hD hS => by have ee := sx_setA (cI := cI) (cZ := cZ) (ad := ad) (q := q) i.toNatClampNeg (vp_nar .boolean v) hs; simp only [if_true] at ee hP hD; rw [ee] at hP hD; exact (k p e s m args below meth c H locs D ad cI cZ A lsC hx hb hr hlk hml hown hts hKx hK hP hD hS hA hl))
theorem sx_alen {o n : Nat} {v : Int32} (d : decode cc pc = .ok (.arraylength, 1)) (hs : sh[o]? = some (.inl (false, n))) (ht : ∀ a b, (tf a b)[0]? = some (a, .int)) (hv : Int32.ofNat n = v) (k : XX sh cl K tf l own cc nL ret R Q (pc + 1) ls (.int v :: st) q) : XX sh cl K tf l own cc nL ret R Q pc ls (.ref o :: st) q := by
  intro p e s m args below meth c H locs D ad cI cZ A lsC hx hb hr hlk hml hown hts hKx hK hP hD hS hA hl
  exact va_alen hx hb hK hP o 0 (sx_getA hs) (ht _ _) hv d (k p e s m args below meth c H locs D ad cI cZ A lsC hx hb hr hlk hml hown hts hKx hK hP hD hS hA hl)
theorem sx_copy {o o2 n n2 j : Nat} {sp dp w : Int32} (d : decode cc pc = .ok (.invokestatic j, 3)) (hln : Cond.methodLink own j arraycopyName ∈ GG) (hw : Cond.native arraycopyName ∈ GG ∧ Cond.static arraycopyName ∈ GG ∧ Cond.initialized "java/lang/System" ∈ GG) (hs : sh[o]? = some (.inl (false, n))) (hs2 : sh[o2]? = some (.inl (false, n2))) (ht : ∀ a b, (tf a b)[0]? = some (a, .int)) (h1 : ¬ sp < 0) (h2 : ¬ dp < 0) (h3 : ¬ w < 0) (h4 : sp.toNatClampNeg + w.toNatClampNeg ≤ n) (h5 : dp.toNatClampNeg + w.toNatClampNeg ≤ n2) (hf : 1 ≤ R.frames) (hlo : (st.map fun v => v.category).sum + (nativeFrameWords "java/lang/System" "arraycopy" 5 + 11) ≤ R.locals) (k : XX sh cl K tf l own cc nL ret R Q (pc + 3) ls st (sA q o2 (va_cpy (q.1 o) (q.1 o2) sp.toNatClampNeg dp.toNatClampNeg w.toNatClampNeg))) : XX sh cl K tf l own cc nL ret R Q pc ls (.int w :: .int dp :: .ref o2 :: .int sp :: .ref o :: st) q := by
  intro p e s m args below meth c H locs D ad cI cZ A lsC hx hb hr hlk hml hown hts hKx hK hP hD hS hA hl
  exact va_copyi hx hb (hml.trans hl.1.symm) hown (hts _ hln) (hts _ hw.1) (hts _ hw.2.1) (hts _ hw.2.2) hK hP hD hS o o2 0 0 (sx_getA hs) (sx_getA hs2) (ht _ _) (ht _ _) rfl h1 h2 h3 h4 h5 (fun _ _ => rfl) hf (by rw [sx_cats]; exact hlo) d (fun H locs hP hD hS => by have ee := sx_setR (cI := cI) (cZ := cZ) (ad := ad) (q := q) (va_cpy (q.1 o) (q.1 o2) sp.toNatClampNeg dp.toNatClampNeg w.toNatClampNeg) hs2; simp only [Bool.false_eq_true, if_false] at ee hP hD; rw [ee] at hP hD; exact (k p e s m args below meth c H locs D ad cI cZ A lsC hx hb hr hlk hml hown hts hKx hK hP hD hS hA hl))
theorem sx_mmin {j : Nat} {x y : Int32} (d : decode cc pc = .ok (.invokestatic j, 3)) (hln : Cond.methodLink own j Lib.Math.min.name ∈ GG) (hw : Cond.static Lib.Math.min.name ∈ GG ∧ Cond.initialized "java/lang/Math" ∈ GG ∧ Cond.code Lib.Math.min.name Lib.Math.min.code 2 (some .int) ∈ GG) (hf : 1 ≤ R.frames) (hlo : (st.map fun v => v.category).sum + 13 ≤ R.locals) (k : XX sh cl K tf l own cc nL ret R Q (pc + 3) ls (.int (if y < x then y else x) :: st) q) : XX sh cl K tf l own cc nL ret R Q pc ls (.int y :: .int x :: st) q := by
  intro p e s m args below meth c H locs D ad cI cZ A lsC hx hb hr hlk hml hown hts hKx hK hP hD hS hA hl
  exact va_mmin hx hb (hml.trans hl.1.symm) hown (hts _ hln) (hts _ hw.1) (hts _ hw.2.1) (hts _ hw.2.2) hf (by rw [sx_cats]; exact hlo) (Nat.zero_le _) (Nat.zero_le _) d (k p e s m args below meth c H locs D ad cI cZ A lsC hx hb hr hlk hml hown hts hKx hK hP hD hS hA hl)
theorem sx_mmax {j : Nat} {x y : Int32} (d : decode cc pc = .ok (.invokestatic j, 3)) (hln : Cond.methodLink own j Lib.Math.max.name ∈ GG) (hw : Cond.static Lib.Math.max.name ∈ GG ∧ Cond.initialized "java/lang/Math" ∈ GG ∧ Cond.code Lib.Math.max.name Lib.Math.max.code 2 (some .int) ∈ GG) (hf : 1 ≤ R.frames) (hlo : (st.map fun v => v.category).sum + 13 ≤ R.locals) (k : XX sh cl K tf l own cc nL ret R Q (pc + 3) ls (.int (if x < y then y else x) :: st) q) : XX sh cl K tf l own cc nL ret R Q pc ls (.int y :: .int x :: st) q := by
  intro p e s m args below meth c H locs D ad cI cZ A lsC hx hb hr hlk hml hown hts hKx hK hP hD hS hA hl
  exact va_mmax hx hb (hml.trans hl.1.symm) hown (hts _ hln) (hts _ hw.1) (hts _ hw.2.1) (hts _ hw.2.2) hf (by rw [sx_cats]; exact hlo) (Nat.zero_le _) (Nat.zero_le _) d (k p e s m args below meth c H locs D ad cI cZ A lsC hx hb hr hlk hml hown hts hKx hK hP hD hS hA hl)
theorem sx_mabs {j : Nat} {x : Int32} (d : decode cc pc = .ok (.invokestatic j, 3)) (hln : Cond.methodLink own j Lib.Math.abs.name ∈ GG) (hw : Cond.static Lib.Math.abs.name ∈ GG ∧ Cond.initialized "java/lang/Math" ∈ GG ∧ Cond.code Lib.Math.abs.name Lib.Math.abs.code 1 (some .int) ∈ GG) (hf : 1 ≤ R.frames) (hlo : (st.map fun v => v.category).sum + 13 ≤ R.locals) (k : XX sh cl K tf l own cc nL ret R Q (pc + 3) ls (.int (if 0 ≤ x then x else 0 - x) :: st) q) : XX sh cl K tf l own cc nL ret R Q pc ls (.int x :: st) q := by
  intro p e s m args below meth c H locs D ad cI cZ A lsC hx hb hr hlk hml hown hts hKx hK hP hD hS hA hl
  exact va_mabs hx hb (hml.trans hl.1.symm) hown (hts _ hln) (hts _ hw.1) (hts _ hw.2.1) (hts _ hw.2.2) hf (by rw [sx_cats]; exact hlo) (Nat.zero_le _) (Nat.zero_le _) d (k p e s m args below meth c H locs D ad cI cZ A lsC hx hb hr hlk hml hown hts hKx hK hP hD hS hA hl)
theorem sx_iret {v : Int32} (d : decode cc pc = .ok (.ireturn, 1)) (hr9 : ret = some .int) (hQ : Q (some (.int v)) q) : XX sh cl K tf l own cc nL ret R Q pc ls [.int v] q := by
  intro p e s m args below meth c H locs D ad cI cZ A lsC hx hb hr hlk hml hown hts hKx hK hP hD hS hA hl
  exact W.iret (v := v) hx hb (hr.trans hr9) (fun t ht hW => ⟨⟨some (.int v), q, rfl, hQ, by rw [ht]; exact hP, va_K.moved hW.alike hK⟩, hS.F ht⟩) hS.2.2 d hlk
theorem sx_zret {v : Int32} (d : decode cc pc = .ok (.ireturn, 1)) (hr9 : ret = some .boolean) (hz : v = 0 ∨ v = 1) (hQ : Q (some (.int v)) q) : XX sh cl K tf l own cc nL ret R Q pc ls [.int v] q := by
  intro p e s m args below meth c H locs D ad cI cZ A lsC hx hb hr hlk hml hown hts hKx hK hP hD hS hA hl
  exact W.zret (v := v) (ty := .boolean) hx hb (hr.trans hr9) (by rcases hz with rfl | rfl <;> rfl) (fun t ht hW => ⟨⟨some (.int v), q, rfl, hQ, by rw [ht]; exact hP, va_K.moved hW.alike hK⟩, hS.F ht⟩) hS.2.2 d hlk
theorem sx_lret {v : Int64} (d : decode cc pc = .ok (.lreturn, 1)) (hr9 : ret = some .long) (hQ : Q (some (.long v)) q) : XX sh cl K tf l own cc nL ret R Q pc ls [.long v] q := by
  intro p e s m args below meth c H locs D ad cI cZ A lsC hx hb hr hlk hml hown hts hKx hK hP hD hS hA hl
  exact W.lret (v := v) hx hb (hr.trans hr9) (fun t ht hW => ⟨⟨some (.long v), q, rfl, hQ, by rw [ht]; exact hP, va_K.moved hW.alike hK⟩, hS.F ht⟩) hS.2.2 d hlk
theorem sx_aret {o : Nat} {C : String} (d : decode cc pc = .ok (.areturn, 1)) (hr9 : ret = some (.object C)) (hQ : Q (some (.ref o)) q) : XX sh cl K tf l own cc nL ret R Q pc ls [.ref o] q := by
  intro p e s m args below meth c H locs D ad cI cZ A lsC hx hb hr hlk hml hown hts hKx hK hP hD hS hA hl
  exact W.aret (v := .ref (ad o)) hx hb (hr.trans hr9) (Or.inl ⟨_, rfl⟩) (Or.inr ⟨_, rfl⟩) (fun t ht hW => ⟨⟨some (.ref o), q, rfl, hQ, by rw [ht]; exact hP, va_K.moved hW.alike hK⟩, hS.F ht⟩) hS.2.2 d hlk
theorem sx_vret (d : decode cc pc = .ok (.return_, 1)) (hr9 : ret = none) (hQ : Q none q) : XX sh cl K tf l own cc nL ret R Q pc ls [] q := by
  intro p e s m args below meth c H locs D ad cI cZ A lsC hx hb hr hlk hml hown hts hKx hK hP hD hS hA hl
  exact W.vret hx hb (hr.trans hr9) (fun t ht hW => ⟨⟨none, q, rfl, hQ, by rw [ht]; exact hP, va_K.moved hW.alike hK⟩, hS.F ht⟩) hS.2.2 d hlk
theorem sx_pre {y : MethodName} {cc9 : ByteArray} {nL9 : Nat} {ret9 : Option FieldType} {s : State} {H : Heap} {locs : List Loc} {A : Nat → Prop} {D : va_G} {ad : Nat → Nat} {cI cZ : ClassId} {vs : List Value} (KS : sx_KS K) (hKx : K ad A s s.heap) (hK : va_K D cl (tf cI cZ) s) (hP : va_P D cl (sx_cw sh cI cZ ad q) H) (hD : va_D A (sx_cw sh cI cZ ad q)) (hS : va_S A s.heap H locs) (hA : ∀ a, s.heap.size ≤ a → A a) :
    FrameBlind (va_Pc (vs.map (sx_cz ad)) (fun U => U.heap.size = H.size ∧ va_P D cl (sx_cw sh cI cZ ad q) U.heap ∧ va_K D cl (tf cI cZ) U ∧ va_D (fun _ => True) (sx_cw sh cI cZ ad q) ∧ K ad (va_A (sx_cw sh cI cZ ad q) H.size) U U.heap)) ∧ ∀ U : State, U.heap = H → s.WarmedH U.vm → va_Pc (vs.map (sx_cz ad)) (fun U => U.heap.size = H.size ∧ va_P D cl (sx_cw sh cI cZ ad q) U.heap ∧ va_K D cl (tf cI cZ) U ∧ va_D (fun _ => True) (sx_cw sh cI cZ ad q) ∧ K ad (va_A (sx_cw sh cI cZ ad q) H.size) U U.heap) (vs.map (sx_cz ad)).toArray U := by
  refine ⟨fun a U g mk z => ?_, fun U hU hW => ?_⟩
  · obtain ⟨z0, z1, z2, z3, z4, z5⟩ := z
    exact ⟨z0, z1, z2, va_K.moved (u := U) (U := U.calling g mk a) (Vm.Alike.refl U.vm) z3, z4, KS.1 ad _ U (U.calling g mk a) _ (State.WarmedH.refl U) z5⟩
  · refine ⟨rfl, by rw [hU], by rw [hU]; exact hP, va_K.moved hW.alike hK, hD.weaken (fun _ _ _ _ => trivial), ?_⟩
    rw [hU]
    refine KS.1 ad _ s U H hW (KS.2.2 ad A _ s H (fun a ha => ?_) (KS.2.1 ad A s s.heap H hKx (fun a h1 h2 => hS.2.1 a h1 h2)))
    rcases ha with ⟨k, e, h⟩ | h
    · exact hD.2 k _ h
    · exact hA a (Nat.le_trans hS.1 h)
theorem sx_callV {y : MethodName} {cc9 : ByteArray} {nL9 n f9 L9 j : Nat} {ret9 : Option FieldType} {As rest : List Value} {res : Option Value} {q2 : SQ} {o ci : Nat} {fs : List sx_F} {vc : vw_C} (KS : sx_KS K) (hc : CK sh cl K tf l y cc9 nL9 ret9 f9 L9 (.ref o :: As) q res q2) (mi : sx_MI y cc9 nL9 ret9 n) (hln : Cond.methodLink own j y ∈ GG) (hn : As.length = n) (hin : Cond.instanceMethod y ∈ GG ∧ Cond.selects y.cls y y ∈ GG) (hs : sh[o]? = some (.inr (ci, fs))) (hcl : cl[ci]? = some vc) (hvc : vc.1 = y.cls) (hR : f9 + 1 ≤ R.frames ∧ 8 + (nL9 + 11) + L9 ≤ R.locals) (hcat : (rest.map fun v => v.category).sum ≤ 8) (d : decode cc pc = .ok (.invokevirtual j, 3)) (hst : st = As.reverse ++ .ref o :: rest) (k : XX sh cl K tf l own cc nL ret R Q (pc + 3) ls (res.toList ++ rest) q2) : XX sh cl K tf l own cc nL ret R Q pc ls st q := by
  intro p e s m args below meth c H locs D ad cI cZ A lsC hx hb hr hlk hml hown hts hKx hK hP hD hS hA hl
  subst hst
  have hsub : ∀ a, va_A (sx_cw sh cI cZ ad q) H.size a → A a := by
    intro a ha
    rcases ha with ⟨k, e, h⟩ | h
    · exact hD.2 k _ h
    · exact hA a (Nat.le_trans hS.1 h)
  have hb9 := callB_of (R := R) (own := own) (index := j) (mc := 0) (ms := 0) (rm := { frames := f9, cells := 0, slots := 0, locals := L9 }) n hts (sx_good mi.2.2.1) rfl rfl rfl (hts _ mi.2.2.2) (hts _ hln) mi.2.1 hR
  obtain ⟨hp1, hp2⟩ := sx_pre (y := y) (cc9 := cc9) (nL9 := nL9) (ret9 := ret9) (vs := .ref o :: As) KS hKx hK hP hD hS hA
  have hrec := va_recv hK hP hcl (sx_getO hs)
  rw [hvc] at hrec
  refine sx_call (va_runV (C := y.cls) (As := As.map (sx_cz ad)) (rest := rest.map (sx_cz ad)) ⟨hx, hb, hml, hown, hts⟩ (hc D ad cI cZ H.size) ⟨hb9, hts _ hin.1, hts _ hin.2⟩ ⟨hp1, hrec, hp2⟩ rfl (by rw [List.length_map]; exact hn) hl.1 (by simp [sx_cz]) (lv_room (by rw [sx_cats]; exact hcat)) d ⟨Nat.zero_le _, Nat.zero_le _⟩) hS (fun a _ h => hsub a h) hsub (fun r u H1 locs1 hQ9 hP1 hS1 => ?_)
  obtain ⟨rfl, rfl⟩ := hQ9
  have hk := k p e s m args below meth c H1 locs1 D ad cI cZ A lsC hx hb hr hlk hml hown hts hKx hK hP1 (sx_D _ hD) hS1 hA hl
  have e1 : ((r.map (sx_cz ad)).toList ++ rest.map (sx_cz ad)) = (r.toList ++ rest).map (sx_cz ad) := by cases r <;> simp
  rw [e1]
  exact hk
theorem sx_callS {y : MethodName} {cc9 : ByteArray} {nL9 n f9 L9 j : Nat} {ret9 : Option FieldType} {As rest : List Value} {res : Option Value} {q2 : SQ} (KS : sx_KS K) (hc : CK sh cl K tf l y cc9 nL9 ret9 f9 L9 As q res q2) (mi : sx_MI y cc9 nL9 ret9 n) (hln : Cond.methodLink own j y ∈ GG) (hn : As.length = n) (hstt : Cond.static y ∈ GG) (hR : f9 + 1 ≤ R.frames ∧ 8 + (nL9 + 11) + L9 ≤ R.locals) (hcat : (rest.map fun v => v.category).sum ≤ 8) (d : decode cc pc = .ok (.invokestatic j, 3)) (hst : st = As.reverse ++ rest) (k : XX sh cl K tf l own cc nL ret R Q (pc + 3) ls (res.toList ++ rest) q2) : XX sh cl K tf l own cc nL ret R Q pc ls st q := by
  intro p e s m args below meth c H locs D ad cI cZ A lsC hx hb hr hlk hml hown hts hKx hK hP hD hS hA hl
  subst hst
  have hsub : ∀ a, va_A (sx_cw sh cI cZ ad q) H.size a → A a := by
    intro a ha
    rcases ha with ⟨k, e, h⟩ | h
    · exact hD.2 k _ h
    · exact hA a (Nat.le_trans hS.1 h)
  have hb9 := callB_of (R := R) (own := own) (index := j) (mc := 0) (ms := 0) (rm := { frames := f9, cells := 0, slots := 0, locals := L9 }) n hts (sx_good mi.2.2.1) rfl rfl rfl (hts _ mi.2.2.2) (hts _ hln) mi.2.1 hR
  obtain ⟨hp1, hp2⟩ := sx_pre (y := y) (cc9 := cc9) (nL9 := nL9) (ret9 := ret9) (vs := As) KS hKx hK hP hD hS hA
  refine sx_call (va_runS (As := As.map (sx_cz ad)) (rest := rest.map (sx_cz ad)) ⟨hx, hb, hml, hown, hts⟩ (hc D ad cI cZ H.size) ⟨hb9, hts _ hstt⟩ ⟨hp1, hp2⟩ rfl (by rw [List.length_map]; exact hn) hl.1 (by simp) (lv_room (by rw [sx_cats]; exact hcat)) d ⟨Nat.zero_le _, Nat.zero_le _⟩) hS (fun a _ h => hsub a h) hsub (fun r u H1 locs1 hQ9 hP1 hS1 => ?_)
  obtain ⟨rfl, rfl⟩ := hQ9
  have hk := k p e s m args below meth c H1 locs1 D ad cI cZ A lsC hx hb hr hlk hml hown hts hKx hK hP1 (sx_D _ hD) hS1 hA hl
  have e1 : ((r.map (sx_cz ad)).toList ++ rest.map (sx_cz ad)) = (r.toList ++ rest).map (sx_cz ad) := by cases r <;> simp
  rw [e1]
  exact hk
theorem sx_callSN {y : MethodName} {cc9 : ByteArray} {nL9 n f9 L9 j : Nat} {ret9 : Option FieldType} {As rest : List Value} {res : Option Value} {q2 : SQ} (KS : sx_KS K) (hc : CK sh cl K tf l y cc9 nL9 ret9 f9 L9 As q res q2) (mi : sx_MI y cc9 nL9 ret9 n) {host : String} (hln : ∀ (ad : Nat → Nat) (A : Nat → Prop) (U : State) (H : Heap), K ad A U H → va_Nw (.methodLinkNest own j y host) U) (hn : As.length = n) (hstt : Cond.static y ∈ GG) (hR : f9 + 1 ≤ R.frames ∧ 8 + (nL9 + 11) + L9 ≤ R.locals) (hcat : (rest.map fun v => v.category).sum ≤ 8) (d : decode cc pc = .ok (.invokestatic j, 3)) (hst : st = As.reverse ++ rest) (k : XX sh cl K tf l own cc nL ret R Q (pc + 3) ls (res.toList ++ rest) q2) : XX sh cl K tf l own cc nL ret R Q pc ls st q := by
  intro p e s m args below meth c H locs D ad cI cZ A lsC hx hb hr hlk hml hown hts hKx hK hP hD hS hA hl
  subst hst
  have hsub : ∀ a, va_A (sx_cw sh cI cZ ad q) H.size a → A a := by
    intro a ha
    rcases ha with ⟨k, e, h⟩ | h
    · exact hD.2 k _ h
    · exact hA a (Nat.le_trans hS.1 h)
  have hb9 := va_cnB (R := R) (own := own) (index := j) (host := host) (mc := 0) (ms := 0) (rm := { frames := f9, cells := 0, slots := 0, locals := L9 }) n hts (sx_good mi.2.2.1) rfl rfl rfl (hln ad A s s.heap hKx) (hts _ mi.2.2.2) mi.2.1 hR
  obtain ⟨hp1, hp2⟩ := sx_pre (y := y) (cc9 := cc9) (nL9 := nL9) (ret9 := ret9) (vs := As) KS hKx hK hP hD hS hA
  refine sx_call (va_runSN (As := As.map (sx_cz ad)) (rest := rest.map (sx_cz ad)) ⟨hx, hb, hml, hown, hts⟩ (hc D ad cI cZ H.size) ⟨hb9, hts _ hstt, trivial⟩ ⟨hp1, hp2⟩ rfl (by rw [List.length_map]; exact hn) hl.1 (by simp) (lv_room (by rw [sx_cats]; exact hcat)) d ⟨Nat.zero_le _, Nat.zero_le _⟩) hS (fun a _ h => hsub a h) hsub (fun r u H1 locs1 hQ9 hP1 hS1 => ?_)
  obtain ⟨rfl, rfl⟩ := hQ9
  have hk := k p e s m args below meth c H1 locs1 D ad cI cZ A lsC hx hb hr hlk hml hown hts hKx hK hP1 (sx_D _ hD) hS1 hA hl
  have e1 : ((r.map (sx_cz ad)).toList ++ rest.map (sx_cz ad)) = (r.toList ++ rest).map (sx_cz ad) := by cases r <;> simp
  rw [e1]
  exact hk
end SXR
