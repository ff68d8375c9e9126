/-! a world of fixed shapes beside another one (wr), in a walk that has made cells: calls, and what constructors do to it -/
section ZC
variable {p : Program} {l : Launch} {e : Env} {R : Room} {s : State} {m : MethodId} {args : Array Value} {below : List Frame} {meth : Method} {c : Code} {H : Heap} {locs : List Loc} {Q : State → Prop}
variable {pc : Nat} {ls : Array Slot} {rest : List Value} {st0 : List Value} {free : Addr → Prop} {A0 A1 : Nat → Prop} {H0 : Heap} {a : Array Value} {D : va_G} {cells slots : Nat}
variable {sh : List sx_H} {cl : List vw_C} {K : (Nat → Nat) → (Nat → Prop) → State → Heap → Prop} {tf : ClassId → ClassId → List (ClassId × FieldType)} {own : String} {cc : ByteArray} {nL : Nat} {q : SQ} {cI cZ : ClassId} {ad : Nat → Nat} {A : Nat → Prop} {wr : va_W}
theorem z_call0 {QQ : Option Value → SQ → Prop} (hr : va_Run p l e R s m args below meth c H locs cells slots 0 0 (F0 m pc ls st0) rest (sx_Q sh cl tf QQ D cI cZ ad A1 a) free) (hS : va_S A0 H0 H locs) (hA : ∀ q, q < H.size → A1 q → A0 q) (hf : ∀ q, free q → A0 q)
    (kk : ∀ (r : Option Value) (u : SQ) (H1 : Heap) (locs1 : List Loc), QQ r u → va_P D cl (sx_cw sh cI cZ ad u) H1 → (∀ q : Nat, q < H.size → ¬ A1 q → H1[q]? = H[q]?) → va_S A0 H0 H1 locs1 → W p l e R s m args below meth c H1 locs1 cells slots Q (F0 m (pc + 3) ls ((r.map (sx_cz ad)).toList ++ rest))) : W p l e R s m args below meth c H locs cells slots Q (F0 m pc ls st0) := by
  intro T hT X
  obtain ⟨v, st₀, t, T', L, h0, X', hL, e1, e2, ⟨⟨r, u, hv, hp, hb, hk2⟩, hz, hk⟩, st⟩ := hr T hT X
  have hv : v = r.map (sx_cz ad) := by cases hv; rfl
  subst hv
  rw [h0] at hz hk
  obtain ⟨t2, a1, b1⟩ := kk r u T'.heap (locs ++ L) hp (by rw [e1]; exact hb) (fun q h1 h2 => by rw [e1]; exact hk q h1 h2)
    ⟨Nat.le_trans hS.1 (by rw [e1]; exact hz), fun q h1 h2 => by rw [e1, hk q (Nat.lt_of_lt_of_le h1 hS.1) (fun z => h2 (hA q (Nat.lt_of_lt_of_le h1 hS.1) z))]; exact hS.2.1 q h1 h2, fun q hq => by
      rcases List.mem_append.mp hq with h | h
      · exact hS.2.2 q h
      · exact hf _ (hL q h)⟩ T' rfl X'
  exact ⟨t2, st t2 a1, b1⟩
theorem z_callV {y : MethodName} {cc9 : ByteArray} {nL9 n f9 L9 j : Nat} {ret9 : Option FieldType} {As : List Value} {res : Option Value} {q2 : SQ} {o ci : Nat} {fs : List sx_F} {vc : vw_C} (KS : sx_KS K) (hc : CK sh cl K tf l y cc9 nL9 ret9 f9 L9 (.ref o :: As) q res q2) (mi : sx_MI y cc9 nL9 ret9 n) (hln : Cond.methodLink own j y ∈ GG) (hn : As.length = n) (hin : Cond.instanceMethod y ∈ GG ∧ Cond.selects y.cls y y ∈ GG) (hs : sh[o]? = some (.inr (ci, fs))) (hcl : cl[ci]? = some vc) (hvc : vc.1 = y.cls) (hR : f9 + 1 ≤ R.frames ∧ 8 + (nL9 + 11) + L9 ≤ R.locals) (hcat : (rest.map fun v => v.category).sum ≤ 8) (hcs : cells ≤ R.cells ∧ slots ≤ R.slots) (d : decode cc pc = .ok (.invokevirtual j, 3))
    (hx : p.tables.exec = Jvm.exec) (hb : c.code = cc) (hml : c.maxLocals = nL) (hown : s.vm.findClass own = some m.cls) (hts : ∀ w ∈ GG, w.before args s = true) (hlsz : ls.size = nL) (hKx : K ad A s s.heap) (hK : va_K D cl (tf cI cZ) s) (hP : va_P D cl (wr ++ sx_cw sh cI cZ ad q) H) (hD : va_D A (wr ++ sx_cw sh cI cZ ad q)) (hS : va_S A s.heap H locs) (hA : ∀ a, s.heap.size ≤ a → A a)
    (hst : st0 = (As.map (sx_cz ad)).reverse ++ .ref (ad o) :: rest)
    (kk : ∀ (H1 : Heap) (locs1 : List Loc), va_P D cl (wr ++ sx_cw sh cI cZ ad q2) H1 → va_D A (wr ++ sx_cw sh cI cZ ad q2) → va_S A s.heap H1 locs1 → W p l e R s m args below meth c H1 locs1 cells slots Q (F0 m (pc + 3) ls ((res.map (sx_cz ad)).toList ++ rest))) : W p l e R s m args below meth c H locs cells slots Q (F0 m pc ls st0) := by
  subst hst
  have inr : ∀ (k : Nat) (x : Nat × va_E), (sx_cw sh cI cZ ad q)[k]? = some x → (wr ++ sx_cw sh cI cZ ad q)[wr.length + k]? = some x := fun k x hq => by
    rw [List.getElem?_append_right (by omega), show wr.length + k - wr.length = k by omega]; exact hq
  have hPc : va_P D cl (sx_cw sh cI cZ ad q) H := fun k x hx9 => hP _ x (inr k x hx9)
  have hDc : va_D A (sx_cw sh cI cZ ad q) := ⟨fun i j9 x y9 hi hj hxy => by
    have := hD.1 _ _ x y9 (inr i x hi) (inr j9 y9 hj) hxy
    omega, fun k x hk => hD.2 _ x (inr k x hk)⟩
  have hsub : ∀ a, va_A (sx_cw sh cI cZ ad q) H.size a → A a := by
    intro a ha
    rcases ha with ⟨k, e, h⟩ | h
    · exact hDc.2 k _ h
    · exact hA a (Nat.le_trans hS.1 h)
  have hb9 := callB_of (R := R) (own := own) (index := j) (mc := 0) (ms := 0) (rm := { frames := f9, cells := 0, slots := 0, locals := L9 }) n hts (sx_good mi.2.2.1) rfl rfl rfl (hts _ mi.2.2.2) (hts _ hln) mi.2.1 hR
  obtain ⟨hp1, hp2⟩ := sx_pre (y := y) (cc9 := cc9) (nL9 := nL9) (ret9 := ret9) (vs := .ref o :: As) KS hKx hK hPc hDc hS hA
  have hrec := va_recv hK hPc hcl (sx_getO hs)
  rw [hvc] at hrec
  refine z_call0 (va_runV (C := y.cls) (As := As.map (sx_cz ad)) (rest := rest) ⟨hx, hb, hml, hown, hts⟩ (hc D ad cI cZ H.size) ⟨hb9, hts _ hin.1, hts _ hin.2⟩ ⟨hp1, hrec, hp2⟩ rfl (by rw [List.length_map]; exact hn) hlsz rfl (lv_room hcat) d ⟨by simpa using hcs.1, by simpa using hcs.2⟩) hS (fun a _ h => hsub a h) hsub (fun r u H1 locs1 hQ9 hP1 hk1 hS1 => ?_)
  obtain ⟨rfl, rfl⟩ := hQ9
  obtain ⟨hP2, hD2⟩ := y_join hP hD hk1 hsub hP1 (sx_D u hDc.self)
  exact kk H1 locs1 hP2 hD2 hS1
end ZC
/-! in a constructor: a world of fixed shapes -/
def ZZ (p : Program) (l : Launch) (e : Env) (R : Room) (s : State) (m : MethodId) (args : Array Value) (below : List Frame) (meth : Method) (c : Code) (D : va_G) (cI cZ : ClassId) (A : Nat → Prop) (lsC : Array Slot) (sh : List sx_H) (ad : Nat → Nat) (Q : State → Prop) (pc : Nat) (st : List Value) (q : SQ) (cells slots : Nat) : Prop :=
  ∀ (H : Heap) (locs : List Loc), va_P D vwCl (sx_cw sh cI cZ ad q) H → va_D A (sx_cw sh cI cZ ad q) → va_S A s.heap H locs → W p l e R s m args below meth c H locs cells slots Q (F0 m pc lsC (st.map (sx_cz ad)))
section ZR
variable {p : Program} {l : Launch} {e : Env} {R : Room} {s : State} {m : MethodId} {args : Array Value} {below : List Frame} {meth : Method} {c : Code} {D : va_G} {cI cZ : ClassId} {A : Nat → Prop} {lsC : Array Slot} {sh : List sx_H} {ad : Nat → Nat} {Q : State → Prop} {own : String} {cc : ByteArray} {pc : Nat} {st : List Value} {q : SQ} {cells slots : Nat}
theorem z_al (B : yB p own cc s m args meth c D cI cZ A lsC (ad 0)) (d : decode cc pc = .ok (.aload_n 0, 1)) (k : ZZ p l e R s m args below meth c D cI cZ A lsC sh ad Q (pc + 1) (.ref 0 :: st) q cells slots) : ZZ p l e R s m args below meth c D cI cZ A lsC sh ad Q pc st q cells slots :=
  fun H locs hP hD hS => lv_aload_n B.1 B.2.1 d rfl (lv_at B.2.2.2.2.2.2.2.2.2.1 0 rfl) (k H locs hP hD hS)
theorem z_push {v : Int32} {len : Nat} (B : yB p own cc s m args meth c D cI cZ A lsC (ad 0)) (d : yPush cc pc v len) (k : ZZ p l e R s m args below meth c D cI cZ A lsC sh ad Q (pc + len) (.int v :: st) q cells slots) : ZZ p l e R s m args below meth c D cI cZ A lsC sh ad Q pc st q cells slots :=
  fun H locs hP hD hS => y_push B d (k H locs hP hD hS)
theorem z_lconst {n : Fin 2} {v : Int64} (B : yB p own cc s m args meth c D cI cZ A lsC (ad 0)) (d : decode cc pc = .ok (.lconst n, 1)) (hv : Int64.ofNat (n : Nat) = v) (k : ZZ p l e R s m args below meth c D cI cZ A lsC sh ad Q (pc + 1) (.long v :: st) q cells slots) : ZZ p l e R s m args below meth c D cI cZ A lsC sh ad Q pc st q cells slots :=
  fun H locs hP hD hS => lv_lconst B.1 B.2.1 d hv (k H locs hP hD hS)
theorem z_getR {o ci k9 n N : Nat} {fs : List sx_F} {C : String} {T : u_T} {ty : Nat → FieldType} {r : Nat} (B : yB p own cc s m args meth c D cI cZ A lsC (ad 0)) (d : decode cc pc = .ok (.getfield n, 3)) (hs : sh[o]? = some (.inr (ci, fs))) (hf : fs[k9]? = some (.inl r)) (cb : sx_CB vwCl ci C T N ty) (fl : sx_FL own n C T N k9) (k : ZZ p l e R s m args below meth c D cI cZ A lsC sh ad Q (pc + 3) (.ref r :: st) q cells slots) : ZZ p l e R s m args below meth c D cI cZ A lsC sh ad Q pc (.ref o :: st) q cells slots := by
  obtain ⟨hx, hb, hr, hlk, hml, hown, hts, hK, hA, hls, hin, hN⟩ := B
  intro H locs hP hD hS
  exact va_get hx hb hts cb.2.1 hown hK hP o (sx_getO hs) cb.1 k9 fl.1 (hts _ fl.2.2) (fun _ h9 => by rw [fl.2.1] at h9; exact h9) (sx_fld hf) d (k H locs hP hD hS)
theorem z_putI {o ci k9 n N : Nat} {fs : List sx_F} {C : String} {T : u_T} {ty : Nat → FieldType} {v : Int32} (B : yB p own cc s m args meth c D cI cZ A lsC (ad 0)) (d : decode cc pc = .ok (.putfield n, 3)) (hs : sh[o]? = some (.inr (ci, fs))) (hf : fs[k9]? = some (.inr false)) (cb : sx_CB vwCl ci C T N ty) (fl : sx_FL own n C T N k9) (hfin : (T k9).2.2.2 = false) (hd : parseFieldDescriptor (T k9).2.2.1 = some .int) (k : ZZ p l e R s m args below meth c D cI cZ A lsC sh ad Q (pc + 3) st (sI q o k9 v) cells slots) : ZZ p l e R s m args below meth c D cI cZ A lsC sh ad Q pc (.int v :: .ref o :: st) q cells slots := by
  obtain ⟨hx, hb, hr, hlk, hml, hown, hts, hK, hA, hls, hin, hN⟩ := B
  intro H locs hP hD hS
  exact va_put (v := .int v) (ty := .int) hx hb hts cb.2.1 ty cb.2.2.1 cb.2.2.2 hown hK hP hD hS o (sx_getO hs) cb.1 k9 fl.1 (hts _ fl.2.2) (fun _ h9 => by rw [fl.2.1] at h9; exact h9) hfin hd rfl rfl (by rw [List.length_mapIdx]; exact (List.getElem?_eq_some_iff.mp hf).1) d (fun H locs hP hD hS => by rw [sx_setI v hs hf] at hP hD; exact k H locs hP hD hS)
theorem z_putL {o ci k9 n N : Nat} {fs : List sx_F} {C : String} {T : u_T} {ty : Nat → FieldType} {v : Int64} (B : yB p own cc s m args meth c D cI cZ A lsC (ad 0)) (d : decode cc pc = .ok (.putfield n, 3)) (hs : sh[o]? = some (.inr (ci, fs))) (hf : fs[k9]? = some (.inr true)) (cb : sx_CB vwCl ci C T N ty) (fl : sx_FL own n C T N k9) (hfin : (T k9).2.2.2 = false) (hd : parseFieldDescriptor (T k9).2.2.1 = some .long) (k : ZZ p l e R s m args below meth c D cI cZ A lsC sh ad Q (pc + 3) st (sL q o k9 v) cells slots) : ZZ p l e R s m args below meth c D cI cZ A lsC sh ad Q pc (.long v :: .ref o :: st) q cells slots := by
  obtain ⟨hx, hb, hr, hlk, hml, hown, hts, hK, hA, hls, hin, hN⟩ := B
  intro H locs hP hD hS
  exact va_put (v := .long v) (ty := .long) hx hb hts cb.2.1 ty cb.2.2.1 cb.2.2.2 hown hK hP hD hS o (sx_getO hs) cb.1 k9 fl.1 (hts _ fl.2.2) (fun _ h9 => by rw [fl.2.1] at h9; exact h9) hfin hd rfl rfl (by rw [List.length_mapIdx]; exact (List.getElem?_eq_some_iff.mp hf).1) d (fun H locs hP hD hS => by rw [sx_setL v hs hf] at hP hD; exact k H locs hP hD hS)
theorem z_iast {o n j9 : Nat} {i v : Int32} (B : yB p own cc s m args meth c D cI cZ A lsC (ad 0)) (d : decode cc pc = .ok (.iastore, 1)) (hs : sh[o]? = some (.inl (false, n))) (hj : i.toNatClampNeg = j9) (hi : ¬ (i < 0 ∨ n ≤ i.toNatClampNeg)) (k : ZZ p l e R s m args below meth c D cI cZ A lsC sh ad Q (pc + 1) st (sI q o j9 v) cells slots) : ZZ p l e R s m args below meth c D cI cZ A lsC sh ad Q pc (.int v :: .int i :: .ref o :: st) q cells slots := by
  subst hj
  obtain ⟨hx, hb, hr, hlk, hml, hown, hts, hK, hA, hls, hin, hN⟩ := B
  intro H locs hP hD hS
  exact va_iast hx hb hK hP hD hS o 0 (sx_getA hs) rfl hi d (fun H locs hP hD hS => by have ee := sx_setA (cI := cI) (cZ := cZ) (ad := ad) (q := q) i.toNatClampNeg v hs; simp only [Bool.false_eq_true, if_false] at ee hP hD; rw [ee] at hP hD; exact k H locs hP hD hS)
theorem z_call {K : (Nat → Nat) → (Nat → Prop) → State → Heap → Prop} {tf : ClassId → ClassId → List (ClassId × FieldType)} {y : MethodName} {cc9 : ByteArray} {nL9 n f9 L9 j : Nat} {ret9 : Option FieldType} {As : List Value} {q2 : SQ} {o ci : Nat} {fs : List sx_F} {vc : vw_C} (B : yB p own cc s m args meth c D cI cZ A lsC (ad 0)) (KS : sx_KS K) (hKx : K ad A s s.heap) (htf : va_K D vwCl (tf cI cZ) s) (hc : CK sh vwCl K tf l y cc9 nL9 ret9 f9 L9 (.ref o :: As) q none q2) (mi : sx_MI y cc9 nL9 ret9 n) (hln : Cond.methodLink own j y ∈ GG) (hn : As.length = n) (hin : Cond.instanceMethod y ∈ GG ∧ Cond.selects y.cls y y ∈ GG) (hs : sh[o]? = some (.inr (ci, fs))) (hcl : vwCl[ci]? = some vc) (hvc : vc.1 = y.cls) (hR : f9 + 1 ≤ R.frames ∧ 8 + (nL9 + 11) + L9 ≤ R.locals) (hcat : (st.map fun v => v.category).sum ≤ 8) (hcs : cells ≤ R.cells ∧ slots ≤ R.slots) (d : decode cc pc = .ok (.invokevirtual j, 3)) (k : ZZ p l e R s m args below meth c D cI cZ A lsC sh ad Q (pc + 3) st q2 cells slots) : ZZ p l e R s m args below meth c D cI cZ A lsC sh ad Q pc (As.reverse ++ .ref o :: st) q cells slots := by
  obtain ⟨hx, hb, hr, hlk, hml, hown, hts, hK, hA, hls, hin2, hN⟩ := B
  intro H locs hP hD hS
  exact z_callV (wr := []) (rest := st.map (sx_cz ad)) KS hc mi hln hn hin hs hcl hvc hR (by rw [sx_cats]; exact hcat) hcs d hx hb hml hown hts hls.1 hKx htf hP hD hS hA (by simp [sx_cz]) (fun H1 locs1 hP1 hD1 hS1 => k H1 locs1 hP1 hD1 hS1)
/-- a static row of numbers is copied into a row of the world -/
theorem z_copyT {o n1 idx a0 N : Nat} {f : Nat → Int32} {wd : Int32} {n9 : Nat} (B : yB p own cc s m args meth c D cI cZ A lsC (ad 0)) (hX : va_T .int a0 N (fun j => .int (f j)) A s s.heap) (hs : sh[o]? = some (.inl (false, n1))) (hln : Cond.methodLink own idx arraycopyName ∈ GG) (hw : Cond.native arraycopyName ∈ GG ∧ Cond.static arraycopyName ∈ GG ∧ Cond.initialized "java/lang/System" ∈ GG) (h3 : ¬ wd < 0) (hn9 : wd.toNatClampNeg = n9) (h4 : n9 ≤ N) (h5 : n9 ≤ n1) (hf : 1 ≤ R.frames) (hlo : (st.map fun v => v.category).sum + (nativeFrameWords "java/lang/System" "arraycopy" 5 + 11) ≤ R.locals) (d : decode cc pc = .ok (.invokestatic idx, 3)) (k : ZZ p l e R s m args below meth c D cI cZ A lsC sh ad Q (pc + 3) st (sA q o (va_cpy f (q.1 o) 0 0 n9)) cells slots) {H : Heap} {locs : List Loc} (hP : va_P D vwCl (sx_cw sh cI cZ ad q) H) (hD : va_D A (sx_cw sh cI cZ ad q)) (hS : va_S A s.heap H locs) : W p l e R s m args below meth c H locs cells slots Q (F0 m pc lsC (.int wd :: .int 0 :: .ref (ad o) :: .int 0 :: .ref a0 :: st.map (sx_cz ad))) := by
  subst hn9
  obtain ⟨hx, hb, hr, hlk, hml, hown, hts, hK, hA, hls, hin2, hN⟩ := B
  have z0 : (0 : Int32).toNatClampNeg = 0 := by decide
  have zi : (0 : Int32).toInt = 0 := by decide
  have nn : wd.toInt = (wd.toNatClampNeg : Int) := by
    have hz0 : (0 : Int) ≤ wd.toInt := by
      have := Int32.le_iff_toInt_le.mp (Int32.not_lt.mp h3)
      simpa using this
    show wd.toInt = ((wd.toInt.toNat : Nat) : Int)
    omega
  obtain ⟨scr, hs1, ⟨hs2, k0, hk0, cm0, hkk0⟩, hs3, hs4, hs5, hs6, hs7⟩ := hX
  have hc0 : H[a0]? = some scr := by rw [hS.2.1 a0 (Array.getElem?_eq_some_iff.mp hs1).1 hs7]; exact hs1
  have ha1 := sx_getA (cI := cI) (cZ := cZ) (ad := ad) (q := q) hs
  have hc1 : H[ad o]? = some (vp_cell cI (n1, .inl (q.1 o))) := hP o _ ha1
  obtain ⟨-, k1, hk1, cm1, hkk1⟩ := (hK.2 0 _ rfl).1 n1 (fun j => .int (q.1 o j))
  intro T hT X
  obtain ⟨vm', X', step⟩ := X.arraycopy hx hown (hts _ hln) (hts _ hw.1) (hts _ hw.2.1) (hts _ hw.2.2) (src := a0) (dst := ad o) (cs := scr) (cd := vp_cell cI (n1, .inl (q.1 o))) (srcPos := 0) (destPos := 0) (n := wd) (by rw [hT]; exact hc0) (by rw [hT]; exact hc1)
    hs2 (fun _ h => by cases h) hs3 (fun h => by cases h) hk0 hk1 hkk0 hkk1 (by simp) (by decide) (by decide) h3
    (by rw [zi, nn]; omega)
    (by rw [zi, nn]; show ¬ _ > ((arrV cI n1 (fun j => .int (q.1 o j))).slots.size : Int); rw [arrV_size]; omega)
    (fun vm₁ _ i hi => by
      have e9 : scr.slots.getD ((0 : Int32).toNatClampNeg + i) .null = .int (f i) := by
        rw [z0, Nat.zero_add, Array.getD_eq_getD_getElem?, hs6 i (by omega)]
        rfl
      rw [e9]
      exact ⟨rfl, trivial⟩)
    (g := F0 m pc lsC (.int wd :: .int 0 :: .ref (ad o) :: .int 0 :: .ref a0 :: st.map (sx_cz ad))) rfl (by rw [hml]; exact hls.1) (rest := st.map (sx_cz ad)) rfl (by rw [hb]; exact d) hf (by rw [sx_cats]; show 2 * 0 + _ + _ ≤ _; omega)
  have e1 : copied scr (vp_cell cI (n1, .inl (q.1 o))) 0 0 wd = vp_cell cI (n1, .inl (va_cpy f (q.1 o) 0 0 wd.toNatClampNeg)) := by
    have := va_copiedX (fun z => Value.int z) scr cI (n1 := n1) (sp := 0) (dp := 0) (n := wd.toNatClampNeg) f (q.1 o) hs6 (by omega)
    unfold copied
    rw [z0]
    exact this
  rw [e1] at X' step
  have hl : ad o < H.size := (Array.getElem?_eq_some_iff.mp hc1).1
  have hheap : ((T.setVm vm').setCell (ad o) (vp_cell cI (n1, .inl (va_cpy f (q.1 o) 0 0 wd.toNatClampNeg)))).heap = H.setIfInBounds (ad o) (vp_cell cI (n1, .inl (va_cpy f (q.1 o) 0 0 wd.toNatClampNeg))) := by rw [← hT]; rfl
  have oq : ∀ x : Nat, x ≠ ad o → (H.setIfInBounds (ad o) (vp_cell cI (n1, .inl (va_cpy f (q.1 o) 0 0 wd.toNatClampNeg))))[x]? = H[x]? := fun x hx9 => by simp [Array.getElem?_setIfInBounds, Ne.symm hx9]
  have hP2 := hP.set hD ha1 (e := .inl (cI, n1, .inl (va_cpy f (q.1 o) 0 0 wd.toNatClampNeg))) (show (H.setIfInBounds (ad o) _)[ad o]? = some _ by simp [Array.getElem?_setIfInBounds, hl]) oq
  have hD2 := hD.set ha1 (e := .inl (cI, n1, .inl (va_cpy f (q.1 o) 0 0 wd.toNatClampNeg)))
  have ee := sx_setR (cI := cI) (cZ := cZ) (ad := ad) (q := q) (va_cpy f (q.1 o) 0 0 wd.toNatClampNeg) hs
  simp only [Bool.false_eq_true, if_false] at ee
  rw [ee] at hP2 hD2
  obtain ⟨t, a1, b1⟩ := k _ _ hP2 hD2 ⟨by simp; exact hS.1, fun x g1 g2 => by
      rw [oq x (fun e => g2 (by rw [e]; exact hD.2 o _ ha1))]
      exact hS.2.1 x g1 g2, fun x hx9 => by
      rcases List.mem_append.mp hx9 with h | h
      · exact hS.2.2 x h
      · obtain ⟨z, -, hz⟩ := List.mem_map.mp h
        rw [← hz]
        exact hD.2 o _ ha1⟩ _ hheap X'
  exact ⟨t, step t a1, b1⟩
end ZR
