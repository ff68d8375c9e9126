/-! CONSTRUCTORS: a world that grows. h0: the object that is made, fs its fields; w: the cells that are made behind it -/
def zQ : SQ := (fun _ _ => 0, fun _ _ => 0)
/-- what stays over a constructor's walk -/
def yB (p : Program) (own : String) (cc : ByteArray) (s : State) (m : MethodId) (args : Array Value) (meth : Method) (c : Code) (D : va_G) (cI cZ : ClassId) (A : Nat → Prop) (lsC : Array Slot) (h0 : Nat) : Prop :=
  p.tables.exec = Jvm.exec ∧ c.code = cc ∧ meth.sig.returnType = none ∧ meth.locks = false ∧ c.maxLocals = 1 ∧ s.vm.findClass own = some m.cls ∧ (∀ w ∈ GG, w.before args s = true) ∧ va_K D vwCl (tfM cI cZ) s ∧ (∀ a, s.heap.size ≤ a → A a) ∧ lv_has lsC 1 [(0, .ref h0)] ∧ meth.name = "<init>" ∧ ∀ w ∈ sx_nests, va_Nw w s
def YY (p : Program) (l : Launch) (e : Env) (R : Room) (s : State) (m : MethodId) (args : Array Value) (below : List Frame) (meth : Method) (c : Code) (D : va_G) (A : Nat → Prop) (lsC : Array Slot) (h0 ci : Nat) (Q : State → Prop) (pc : Nat) (fs : List Value) (w : va_W) (cells slots : Nat) : Prop :=
  ∀ (H : Heap) (locs : List Loc), va_P D vwCl ((h0, .inr (ci, fs)) :: w) H → va_D A ((h0, .inr (ci, fs)) :: w) → va_S A s.heap H locs → W p l e R s m args below meth c H locs cells slots Q (F0 m pc lsC [])
/-- what a constructor finds: its object alone -/
def yPre (D : va_G) (cI cZ : ClassId) (h0 ci : Nat) (fs : List Value) (sz : Nat) (U : State) : Prop := U.heap.size = sz ∧ va_P D vwCl [(h0, .inr (ci, fs))] U.heap ∧ va_K D vwCl (tfM cI cZ) U ∧ va_D (fun _ => True) [(h0, .inr (ci, fs))] ∧ ∀ w ∈ sx_nests, va_Nw w U
/-- what it leaves: cells of these shapes, all 0 -/
def yPost (D : va_G) (cI cZ : ClassId) (A : Nat → Prop) (sh : List sx_H) (ad : Nat → Nat) (t : State) : Prop := va_P D vwCl (sx_cw sh cI cZ ad zQ) t.heap ∧ va_K D vwCl (tfM cI cZ) t ∧ va_D A (sx_cw sh cI cZ ad zQ)
def IC (l : Launch) (y : MethodName) (cc : ByteArray) (f L mc ms ci : Nat) (fs : List Value) (sh : List sx_H) : Prop :=
  ∀ (D : va_G) (cI cZ : ClassId) (h0 sz : Nat), Met l y (Cond.code y cc 1 none :: GG) { frames := f, cells := mc, slots := ms, locals := L } (va_Pc [.ref h0] (yPre D cI cZ h0 ci fs sz)) (va_Qv (fun ad : Nat → Nat => ad 0 = h0) (yPost D cI cZ (va_A [(h0, .inr (ci, fs))] sz) sh) (va_A [(h0, .inr (ci, fs))] sz)) mc ms (va_A [(h0, .inr (ci, fs))] sz)
/-- what the tables say of a constructor -/
def yMI (y : MethodName) (cc : ByteArray) : Prop := plainName y.cls = true ∧ (y.cls ≠ "java/lang/invoke/MethodHandle" ∧ y.cls ≠ "java/lang/invoke/VarHandle" ∧ (parseMethodDescriptor y.desc).map (fun d => d.parameters.length) = some 0) ∧ y.name = "<init>" ∧ Cond.code y cc 1 none ∈ GG ∧ Cond.initialized y.cls ∈ GG ∧ Cond.instanceMethod y ∈ GG
theorem IC.of {l : Launch} {y : MethodName} {cc : ByteArray} {f L mc ms ci : Nat} {fs : List Value} {sh : List sx_H} (mi : yMI y cc)
    (h : ∀ (p : Program) (e : Env) (s : State) (m : MethodId) (args : Array Value) (below : List Frame) (meth : Method) (c : Code) (D : va_G) (cI cZ : ClassId) (A : Nat → Prop) (lsC : Array Slot) (h0 : Nat), yB p y.cls cc s m args meth c D cI cZ A lsC h0 → YY p l e { frames := f, cells := mc, slots := ms, locals := L } s m args below meth c D A lsC h0 ci (MQ below (va_Qv (fun ad : Nat → Nat => ad 0 = h0) (yPost D cI cZ A sh) A) args s mc ms A) 0 fs [] 0 0) : IC l y cc f L mc ms ci fs sh := by
  intro D cI cZ h0 sz
  refine Met.ofW (cc := cc) (maxL := 1) (ret := none) mi.1 rfl ?_
  intro p e s m args below meth c s₁ B hml hv
  obtain ⟨rfl, hsz, hP, hK, hD0, hN⟩ := hv
  have hts := atoms_spec (ws := Cond.code y cc 1 none :: GG) B.pre
  have hown : s.vm.findClass y.cls = some m.cls := findClass_of_methodNamed B.named
  have hin : meth.name = y.name := (name_of_methodNamed B.named B.method).1
  subst hsz
  have hD := hD0.self (sz := s.heap.size)
  generalize hAe : va_A [(h0, .inr (ci, fs))] s.heap.size = A at hD ⊢
  have hA : ∀ q : Nat, s.heap.size ≤ q → A q := fun q hq => by rw [← hAe]; exact Or.inr hq
  have hl := lv_entry ([.ref h0]) (n := 1) (Nat.le_of_ble_eq_true rfl)
  rw [lg_entry_eq]
  generalize (lg_sl ([.ref h0]) ++ List.replicate (1 - (lg_sl ([.ref h0])).length) Slot.unset).toArray = ls at hl ⊢
  exact h p e s m _ below meth c D cI cZ A ls h0 ⟨B.exec, B.bytes, B.returns, B.notSynchronized, hml, hown, fun w hw => hts w (List.mem_cons_of_mem _ hw), hK, hA, hl, hin.trans mi.2.2.1, hN⟩ s.heap [] hP hD va_S.rf
/-- the callee's cells last: what comes back beside the rest -/
theorem y_join {A0 : Nat → Prop} {D : va_G} {cl : List vw_C} {wr wc w1 : va_W} {H H1 : Heap} (hP : va_P D cl (wr ++ wc) H) (hD : va_D A0 (wr ++ wc)) (hk : ∀ q : Nat, q < H.size → ¬ va_A wc H.size q → H1[q]? = H[q]?) (hF : ∀ q, va_A wc H.size q → A0 q) (hP1 : va_P D cl w1 H1) (hD1 : va_D (va_A wc H.size) w1) : va_P D cl (wr ++ w1) H1 ∧ va_D A0 (wr ++ w1) := by
  have inl : ∀ (k : Nat) (q : Nat × va_E), wr[k]? = some q → (wr ++ wc)[k]? = some q := fun k q hq => by
    rw [List.getElem?_append_left (List.getElem?_eq_some_iff.mp hq).1]; exact hq
  have inr : ∀ (k : Nat) (q : Nat × va_E), wc[k]? = some q → (wr ++ wc)[wr.length + k]? = some q := fun k q hq => by
    rw [List.getElem?_append_right (by omega), show wr.length + k - wr.length = k by omega]; exact hq
  have apart : ∀ (k : Nat) (q : Nat × va_E), wr[k]? = some q → q.1 < H.size ∧ ¬ va_A wc H.size q.1 := by
    intro k q hq
    have hl := (hP k q (inl k q hq)).lt
    refine ⟨hl, fun h => ?_⟩
    rcases h with ⟨k2, e, h⟩ | h
    · have e1 := hD.1 k (wr.length + k2) q (q.1, e) (inl k q hq) (inr k2 _ h) rfl
      have := (List.getElem?_eq_some_iff.mp hq).1
      omega
    · omega
  have hPr : va_P D cl wr H := fun k q hq => hP k q (inl k q hq)
  have hDr : va_D A0 wr := ⟨fun i j p q hi hj hpq => hD.1 i j p q (inl i p hi) (inl j q hj) hpq, fun k q hq => hD.2 k q (inl k q hq)⟩
  refine ⟨va_P.app (hPr.kept (fun k q hq => hk q.1 (apart k q hq).1 (apart k q hq).2)) hP1, va_D.app hDr (hD1.weaken (fun k q _ h => hF q.1 h)) (fun i j x y hx hy hxy => ?_)⟩
  exact (apart i x hx).2 (by rw [hxy]; exact hD1.2 j y hy)
theorem y_cI {D : va_G} {cI cZ cA : ClassId} {s : State} (h : va_K D vwCl (tfM cI cZ ++ [(cA, .int)]) s) : cA = cI := by
  have h1 : s.vm.findClass ("[" ++ (FieldType.int).toString) = some cI := (h.2 0 (cI, .int) rfl).2
  have h2 : s.vm.findClass ("[" ++ (FieldType.int).toString) = some cA := (h.2 2 (cA, .int) rfl).2
  rw [h1] at h2
  exact (Option.some.inj h2).symm
theorem y_cZ {D : va_G} {cI cZ cA : ClassId} {s : State} (h : va_K D vwCl (tfM cI cZ ++ [(cA, .boolean)]) s) : cA = cZ := by
  have h1 : s.vm.findClass ("[" ++ (FieldType.boolean).toString) = some cZ := (h.2 1 (cZ, .boolean) rfl).2
  have h2 : s.vm.findClass ("[" ++ (FieldType.boolean).toString) = some cA := (h.2 2 (cA, .boolean) rfl).2
  rw [h1] at h2
  exact (Option.some.inj h2).symm
/-- a number laid on the stack -/
def yPush (cc : ByteArray) (pc : Nat) (v : Int32) (len : Nat) : Prop := (∃ n, decode cc pc = .ok (.iconst n, 1) ∧ Int32.ofInt n = v ∧ len = 1) ∨ (∃ n, decode cc pc = .ok (.bipush n, 2) ∧ (Int8.ofInt n).toInt32 = v ∧ len = 2) ∨ (∃ n, decode cc pc = .ok (.sipush n, 3) ∧ (Int16.ofInt n).toInt32 = v ∧ len = 3)
section YROWS
variable {p : Program} {l : Launch} {e : Env} {R : Room} {s : State} {m : MethodId} {args : Array Value} {below : List Frame} {meth : Method} {c : Code} {D : va_G} {cI cZ : ClassId} {A : Nat → Prop} {lsC : Array Slot} {h0 ci : Nat} {Q : State → Prop} {own : String} {cc : ByteArray} {pc : Nat} {fs : List Value} {w : va_W} {cells slots : Nat}
theorem y_push {H : Heap} {locs : List Loc} {st : List Value} {v : Int32} {len : Nat} (B : yB p own cc s m args meth c D cI cZ A lsC h0) (d : yPush cc pc v len) (kk : W p l e R s m args below meth c H locs cells slots Q (F0 m (pc + len) lsC (.int v :: st))) : W p l e R s m args below meth c H locs cells slots Q (F0 m pc lsC st) := by
  rcases d with ⟨n, d, hv, rfl⟩ | ⟨n, d, hv, rfl⟩ | ⟨n, d, hv, rfl⟩
  · exact lv_iconst B.1 B.2.1 d hv kk
  · exact lv_bipush B.1 B.2.1 d hv kk
  · exact lv_sipush B.1 B.2.1 d hv kk
/-- putfield of the object that is made -/
theorem y_put {H : Heap} {locs : List Loc} {n k N : Nat} {T : u_T} {ty : Nat → FieldType} {v : Value} {t : FieldType} (B : yB p own cc s m args meth c D cI cZ A lsC h0) (cb : sx_CB vwCl ci own T N ty) (fl : sx_FL own n own T N k) (ht : ty k = t) (hn : narrow t v = v) (hf : fits t v = true) (hl : fs.length = N) (d : decode cc pc = .ok (.putfield n, 3)) (hP : va_P D vwCl ((h0, .inr (ci, fs)) :: w) H) (hD : va_D A ((h0, .inr (ci, fs)) :: w)) (hS : va_S A s.heap H locs) (kk : YY p l e R s m args below meth c D A lsC h0 ci Q (pc + 3) (fs.set k v) w cells slots) : W p l e R s m args below meth c H locs cells slots Q (F0 m pc lsC [v, .ref h0]) := by
  obtain ⟨hx, hb, hr, hlk, hml, hown, hts, hK, hA, hls, hin, hN⟩ := B
  have hd : parseFieldDescriptor (T k).2.2.1 = some t := by rw [cb.2.2.1 k fl.1, ht]
  cases hfin : (T k).2.2.2 with
  | true => exact va_putF (v := v) (ty := t) hx hb hts cb.2.1 ty cb.2.2.1 cb.2.2.2 hown hK hP hD hS 0 rfl cb.1 k fl.1 (hts _ fl.2.2) (fun _ h9 => by rw [fl.2.1] at h9; exact h9) hfin hin fl.2.1 hd hn hf (by rw [hl]; exact fl.1) d (fun H locs hP hD hS => kk H locs hP hD hS)
  | false => exact va_put (v := v) (ty := t) hx hb hts cb.2.1 ty cb.2.2.1 cb.2.2.2 hown hK hP hD hS 0 rfl cb.1 k fl.1 (hts _ fl.2.2) (fun _ h9 => by rw [fl.2.1] at h9; exact h9) hfin hd hn hf (by rw [hl]; exact fl.1) d (fun H locs hP hD hS => kk H locs hP hD hS)
theorem y_start {idx : Nat} (B : yB p own cc s m args meth c D cI cZ A lsC h0) (hln : Cond.methodLink own idx objectInit ∈ GG) (him : Cond.instanceMethod objectInit ∈ GG) (hco : Cond.code objectInit ⟨#[0xb1]⟩ 1 none ∈ GG) (d0 : decode cc pc = .ok (.aload_n 0, 1)) (d1 : decode cc (pc + 1) = .ok (.invokespecial idx, 3)) (hR : 1 ≤ R.frames ∧ 12 ≤ R.locals) (kk : YY p l e R s m args below meth c D A lsC h0 ci Q (pc + 4) fs w cells slots) : YY p l e R s m args below meth c D A lsC h0 ci Q pc fs w cells slots := by
  obtain ⟨hx, hb, hr, hlk, hml, hown, hts, hK, hA, hls, hin, hN⟩ := B
  intro H locs hP hD hS
  refine lv_aload_n hx hb d0 rfl (lv_at hls 0 rfl) ?_
  refine W.objInit hx hb hown (hts _ hln) (hts _ him) (hts _ hco) rfl (by rw [hml]; exact hls.1) rfl d1 hR.1 (by simpa using hR.2) ?_
  exact W.eq (g2 := F0 m (pc + 4) lsC []) rfl (kk H locs hP hD hS)
theorem y_int {n k N len : Nat} {T : u_T} {ty : Nat → FieldType} {v : Int32} {t : FieldType} (B : yB p own cc s m args meth c D cI cZ A lsC h0) (cb : sx_CB vwCl ci own T N ty) (fl : sx_FL own n own T N k) (ht : ty k = t) (hn : narrow t (.int v) = .int v) (hf : fits t (.int v) = true) (hl : fs.length = N) (d0 : decode cc pc = .ok (.aload_n 0, 1)) (d1 : yPush cc (pc + 1) v len) (d : decode cc (pc + 1 + len) = .ok (.putfield n, 3)) (kk : YY p l e R s m args below meth c D A lsC h0 ci Q (pc + 1 + len + 3) (fs.set k (.int v)) w cells slots) : YY p l e R s m args below meth c D A lsC h0 ci Q pc fs w cells slots := by
  intro H locs hP hD hS
  refine lv_aload_n B.1 B.2.1 d0 rfl (lv_at B.2.2.2.2.2.2.2.2.2.1 0 rfl) ?_
  refine y_push B d1 ?_
  exact y_put B cb fl ht hn hf hl d hP hD hS kk
theorem y_arr {n k N len N2 : Nat} {T : u_T} {ty : Nat → FieldType} {v : Int32} (B : yB p own cc s m args meth c D cI cZ A lsC h0) (hac : Cond.arrayClass .int ∈ GG) (cb : sx_CB vwCl ci own T N ty) (fl : sx_FL own n own T N k) (ht : ty k = .array .int) (hl : fs.length = N) (d0 : decode cc pc = .ok (.aload_n 0, 1)) (d1 : yPush cc (pc + 1) v len) (d2 : decode cc (pc + 1 + len) = .ok (.newarray .int, 2)) (d : decode cc (pc + 1 + len + 2) = .ok (.putfield n, 3)) (hv : ¬ v < 0) (hv2 : v.toNatClampNeg = N2) (hb : N2 ≤ 1000) (hR : cells + 1 ≤ R.cells ∧ slots + N2 ≤ R.slots)
    (kk : ∀ a : Nat, YY p l e R s m args below meth c D A lsC h0 ci Q (pc + 1 + len + 2 + 3) (fs.set k (.ref a)) (w ++ [(a, .inl (cI, N2, .inl (fun _ => 0)))]) (cells + 1) (slots + N2)) : YY p l e R s m args below meth c D A lsC h0 ci Q pc fs w cells slots := by
  intro H locs hP hD hS
  have hK := B.2.2.2.2.2.2.2.1
  refine lv_aload_n B.1 B.2.1 d0 rfl (lv_at B.2.2.2.2.2.2.2.2.2.1 0 rfl) ?_
  refine y_push B d1 ?_
  refine va_newa (atype := .int) (ty := .int) (a0 := (N2, .inl (fun _ => 0))) B.1 B.2.1 (B.2.2.2.2.2.2.1 _ hac) rfl hK hP hD hS B.2.2.2.2.2.2.2.2.1 (fun cA => rfl) hv hv2 (by show N2 * 4 ≤ _; omega) hR.1 hR.2 d2 (fun q cA H1 hK1 hP1 hD1 hS1 => ?_)
  have e := y_cI hK1
  subst e
  exact y_put B cb fl ht rfl rfl hl d hP1 hD1 hS1 (kk q)
theorem y_arz {n k N len N2 : Nat} {T : u_T} {ty : Nat → FieldType} {v : Int32} (B : yB p own cc s m args meth c D cI cZ A lsC h0) (hac : Cond.arrayClass .boolean ∈ GG) (cb : sx_CB vwCl ci own T N ty) (fl : sx_FL own n own T N k) (ht : ty k = .array .boolean) (hl : fs.length = N) (d0 : decode cc pc = .ok (.aload_n 0, 1)) (d1 : yPush cc (pc + 1) v len) (d2 : decode cc (pc + 1 + len) = .ok (.newarray .boolean, 2)) (d : decode cc (pc + 1 + len + 2) = .ok (.putfield n, 3)) (hv : ¬ v < 0) (hv2 : v.toNatClampNeg = N2) (hb : N2 ≤ 1000) (hR : cells + 1 ≤ R.cells ∧ slots + N2 ≤ R.slots)
    (kk : ∀ a : Nat, YY p l e R s m args below meth c D A lsC h0 ci Q (pc + 1 + len + 2 + 3) (fs.set k (.ref a)) (w ++ [(a, .inl (cZ, N2, .inl (fun _ => 0)))]) (cells + 1) (slots + N2)) : YY p l e R s m args below meth c D A lsC h0 ci Q pc fs w cells slots := by
  intro H locs hP hD hS
  have hK := B.2.2.2.2.2.2.2.1
  refine lv_aload_n B.1 B.2.1 d0 rfl (lv_at B.2.2.2.2.2.2.2.2.2.1 0 rfl) ?_
  refine y_push B d1 ?_
  refine va_newa (atype := .boolean) (ty := .boolean) (a0 := (N2, .inl (fun _ => 0))) B.1 B.2.1 (B.2.2.2.2.2.2.1 _ hac) rfl hK hP hD hS B.2.2.2.2.2.2.2.2.1 (fun cA => rfl) hv hv2 (by show N2 * 1 ≤ _; omega) hR.1 hR.2 d2 (fun q cA H1 hK1 hP1 hD1 hS1 => ?_)
  have e := y_cZ hK1
  subst e
  exact y_put B cb fl ht rfl rfl hl d hP1 hD1 hS1 (kk q)
/-- a new object of another class, its constructor run, laid into a field -/
theorem y_new {idx idx2 n k N ci2 N2 f2 L2 mc2 ms2 : Nat} {T T2 : u_T} {ty ty2 : Nat → FieldType} {C2 : String} {y2 : MethodName} {cc2 : ByteArray} {fs2 : List Value} {sh2 : List sx_H} (B : yB p own cc s m args meth c D cI cZ A lsC h0) (ic : IC l y2 cc2 f2 L2 mc2 ms2 ci2 fs2 sh2) (mi : yMI y2 cc2) (hy : y2.cls = C2) (cb2 : sx_CB vwCl ci2 C2 T2 N2 ty2) (hfs2 : ∀ j, j < N2 → defaultValue (ty2 j) = vp_V fs2 j) (hcl : Cond.classLink own idx C2 ∈ GG) (hinst : Cond.instantiable C2 N2 ∈ GG) (hnest : Cond.methodLinkNest own idx2 y2 "StarChart" ∈ sx_nests) (cb : sx_CB vwCl ci own T N ty) (fl : sx_FL own n own T N k) (ht : ty k = .object C2) (hl : fs.length = N) (d0 : decode cc pc = .ok (.aload_n 0, 1)) (d1 : decode cc (pc + 1) = .ok (.new idx, 3)) (d2 : decode cc (pc + 4) = .ok (.dup, 1)) (d3 : decode cc (pc + 5) = .ok (.invokespecial idx2, 3)) (d : decode cc (pc + 8) = .ok (.putfield n, 3)) (hR : cells + 1 + mc2 ≤ R.cells ∧ slots + N2 + ms2 ≤ R.slots) (hR2 : f2 + 1 ≤ R.frames ∧ 8 + (1 + 11) + L2 ≤ R.locals)
    (kk : ∀ ad : Nat → Nat, YY p l e R s m args below meth c D A lsC h0 ci Q (pc + 11) (fs.set k (.ref (ad 0))) (w ++ sx_cw sh2 cI cZ ad zQ) (cells + 1 + mc2) (slots + N2 + ms2)) : YY p l e R s m args below meth c D A lsC h0 ci Q pc fs w cells slots := by
  intro H locs hP hD hS
  have B' := B
  obtain ⟨hx, hb, hr, hlk, hml, hown, hts, hK, hA, hls, hin, hN⟩ := B'
  subst hy
  refine lv_aload_n hx hb d0 rfl (lv_at hls 0 rfl) ?_
  refine va_new (ci := ci2) (fs := fs2) hx hb hts cb2.2.1 ty2 cb2.2.2.1 hown (hts _ hcl) (hts _ hinst) (hts _ mi.2.2.2.2.1) hK hP hD hS hA cb2.1 hfs2 (by omega) (by omega) d1 (fun q H1 hP1 hD1 hS1 => ?_)
  refine lv_dup hx hb d2 rfl ?_
  have hsub : ∀ a, va_A [(q, .inr (ci2, fs2))] H1.size a → A a := by
    intro a ha
    rcases ha with ⟨i, e9, h9⟩ | h9
    · have hi : i = 0 := by
        have := (List.getElem?_eq_some_iff.mp h9).1
        simp at this
        exact this
      subst hi
      have h9' : (q, (Sum.inr (ci2, fs2) : va_E)) = (a, e9) := Option.some.inj h9
      rw [← (Prod.mk.inj h9').1]
      exact hD1.2 (((h0, .inr (ci, fs)) :: w).length) (q, .inr (ci2, fs2)) (by rw [List.getElem?_append_right (Nat.le_refl _), Nat.sub_self]; rfl)
    · exact hA a (Nat.le_trans hS1.1 h9)
  have hPc : va_P D vwCl [(q, .inr (ci2, fs2))] H1 := fun i x hx9 => hP1 (((h0, .inr (ci, fs)) :: w).length + i) x (by rw [List.getElem?_append_right (by omega), Nat.add_sub_cancel_left]; exact hx9)
  have hDc : va_D (fun _ => True) [(q, (.inr (ci2, fs2) : va_E))] := ⟨fun i j x y hi hj _ => by
    have h1 := (List.getElem?_eq_some_iff.mp hi).1
    have h2 := (List.getElem?_eq_some_iff.mp hj).1
    simp at h1 h2
    omega, fun _ _ _ => trivial⟩
  have hb9 := va_cnB (R := R) (own := own) (index := idx2) (host := "StarChart") (mc := mc2) (ms := ms2) (rm := { frames := f2, cells := mc2, slots := ms2, locals := L2 }) 0 hts (sx_good (y := y2) (cc := cc2) (nL := 1) (ret := none) mi.2.2.2.1) rfl rfl rfl (hN _ hnest) (hts _ mi.2.2.2.2.1) mi.2.1 hR2
  refine va_callv (va_runIN (As := []) (rest := [.ref q, .ref h0]) ⟨hx, hb, hml, hown, hts⟩ (ic D cI cZ q H1.size) ⟨hb9, mi.2.2.1, hts _ mi.2.2.2.2.2⟩ ⟨fun a U g mk z => ?_, fun U hU hW => ?_⟩ rfl rfl hls.1 rfl (lv_room (Nat.le_of_ble_eq_true rfl)) d3 ⟨hR.1, hR.2⟩) hS1 (fun a _ h => hsub a h) hsub (fun ad t H2 locs2 ht2 hvm hw hB hz1 hk1 hS2 => ?_)
  · obtain ⟨z0, z1, z2, z3, z4, z5⟩ := z
    exact ⟨z0, z1, z2, va_K.moved (u := U) (U := U.calling g mk a) (Vm.Alike.refl U.vm) z3, z4, fun w hw => sx_nestW (s := U) (U := U.calling g mk a) (State.WarmedH.refl U) hw (z5 w hw)⟩
  · refine ⟨rfl, by rw [hU], by rw [hU]; exact hPc, va_K.moved hW.alike hK, hDc, fun w hw => sx_nestW hW hw (hN w hw)⟩
  · obtain ⟨hP3, hK3, hD3⟩ := hB
    rw [ht2] at hP3
    obtain ⟨hP4, hD4⟩ := y_join hP1 hD1 hk1 hsub hP3 hD3
    rw [← show ad 0 = q from hw]
    refine y_put B cb fl ht rfl rfl hl d (w := w ++ sx_cw sh2 cI cZ ad zQ) ?_ ?_ hS2 ?_
    · exact hP4
    · exact hD4
    · exact kk ad
theorem y_ret {sh : List sx_H} {cells9 slots9 : Nat} (ad : Nat → Nat) (B : yB p own cc s m args meth c D cI cZ A lsC h0) (d : decode cc pc = .ok (.return_, 1)) (he : ((h0, (.inr (ci, fs) : va_E)) :: w) = sx_cw sh cI cZ ad zQ) (h9 : ad 0 = h0) (hc : cells = cells9 ∧ slots = slots9) : YY p l e R s m args below meth c D A lsC h0 ci (MQ below (va_Qv (fun ad : Nat → Nat => ad 0 = h0) (yPost D cI cZ A sh) A) args s cells9 slots9 A) pc fs w cells slots := by
  obtain ⟨rfl, rfl⟩ := hc
  obtain ⟨hx, hb, hr, hlk, hml, hown, hts, hK, hA, hls, hin, hN⟩ := B
  intro H locs hP hD hS
  rw [he] at hP hD
  exact W.vret hx hb hr (fun t ht hW => ⟨⟨ad, rfl, h9, by rw [ht]; exact hP, va_K.moved hW.alike hK, hD⟩, hS.F ht⟩) hS.2.2 d hlk
end YROWS
