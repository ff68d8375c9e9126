/-! the two big constructors (printed by big.py) -/
def IG (l : Launch) (y : MethodName) (cc : ByteArray) (f L mc ms ci : Nat) (fs : List Value) (sh : List sx_H) (K0 : (Nat → Nat) → (Nat → Prop) → State → Heap → Prop) (q : SQ) : Prop :=
  ∀ (D : va_G) (ad0 : Nat → Nat) (cI cZ : ClassId) (h0 sz : Nat), Met l y (Cond.code y cc 1 none :: GG) { frames := f, cells := mc, slots := ms, locals := L } (va_Pc [.ref h0] (fun U => yPre D cI cZ h0 ci fs sz U ∧ K0 ad0 (va_A [(h0, .inr (ci, fs))] sz) U U.heap)) (va_Qv (fun ad : Nat → Nat => ad 0 = h0 ∧ ∀ k, 1000 ≤ k → ad k = ad0 k) (fun ad t => va_P D vwCl (sx_cw sh cI cZ ad q) t.heap ∧ va_K D vwCl (tfM cI cZ) t ∧ va_D (va_A [(h0, .inr (ci, fs))] sz) (sx_cw sh cI cZ ad q)) (va_A [(h0, .inr (ci, fs))] sz)) mc ms (va_A [(h0, .inr (ci, fs))] sz)
theorem IG.of {l : Launch} {y : MethodName} {cc : ByteArray} {f L mc ms ci : Nat} {fs : List Value} {sh : List sx_H} {K0 : (Nat → Nat) → (Nat → Prop) → State → Heap → Prop} {q : SQ} (mi : yMI y cc)
    (h : ∀ (p : Program) (e : Env) (s : State) (m : MethodId) (args : Array Value) (below : List Frame) (meth : Method) (c : Code) (D : va_G) (ad0 : Nat → Nat) (cI cZ : ClassId) (A : Nat → Prop) (lsC : Array Slot) (h0 : Nat), yB p y.cls cc s m args meth c D cI cZ A lsC h0 → K0 ad0 A s s.heap → YY p l e { frames := f, cells := mc, slots := ms, locals := L } s m args below meth c D A lsC h0 ci (MQ below (va_Qv (fun ad : Nat → Nat => ad 0 = h0 ∧ ∀ k, 1000 ≤ k → ad k = ad0 k) (fun ad t => va_P D vwCl (sx_cw sh cI cZ ad q) t.heap ∧ va_K D vwCl (tfM cI cZ) t ∧ va_D A (sx_cw sh cI cZ ad q)) A) args s mc ms A) 0 fs [] 0 0) : IG l y cc f L mc ms ci fs sh K0 q := by
  intro D ad0 cI cZ h0 sz
  refine Met.ofW (cc := cc) (maxL := 1) (ret := none) mi.1 rfl ?_
  intro p e s m args below meth c s₁ B hml hv
  obtain ⟨rfl, ⟨hsz, hP, hK, hD0, hN⟩, hKx⟩ := hv
  have hts := atoms_spec (ws := Cond.code y cc 1 none :: GG) B.pre
  have hown : s.vm.findClass y.cls = some m.cls := findClass_of_methodNamed B.named
  have hin : meth.name = y.name := (name_of_methodNamed B.named B.method).1
  subst hsz
  have hD := hD0.self (sz := s.heap.size)
  generalize hAe : va_A [(h0, .inr (ci, fs))] s.heap.size = A at hD hKx ⊢
  have hA : ∀ q : Nat, s.heap.size ≤ q → A q := fun q hq => by rw [← hAe]; exact Or.inr hq
  have hl := lv_entry ([.ref h0]) (n := 1) (Nat.le_of_ble_eq_true rfl)
  rw [lg_entry_eq]
  generalize (lg_sl ([.ref h0]) ++ List.replicate (1 - (lg_sl ([.ref h0])).length) Slot.unset).toArray = ls at hl ⊢
  exact h p e s m _ below meth c D ad0 cI cZ A ls h0 ⟨B.exec, B.bytes, B.returns, B.notSynchronized, hml, hown, fun w hw => hts w (List.mem_cons_of_mem _ hw), hK, hA, hl, hin.trans mi.2.2.1, hN⟩ hKx s.heap [] hP hD va_S.rf
theorem KX.ad {ad ad0 : Nat → Nat} {A : Nat → Prop} {U : State} {H : Heap} (h : KX ad0 A U H) (e : ∀ k, 1000 ≤ k → ad k = ad0 k) : KX ad A U H := by
  have e1 : (fun i => ad (1000 + i)) = fun i => ad0 (1000 + i) := funext fun i => e _ (by omega)
  have e2 : (fun i => ad (1100 + i)) = fun i => ad0 (1100 + i) := funext fun i => e _ (by omega)
  have e3 : ∀ i, ad (1000 + i) = ad0 (1000 + i) := fun i => e _ (by omega)
  unfold KX at h ⊢
  rw [e1, e2, e 1010 (by omega), e 1011 (by omega), e 1012 (by omega), e 1020 (by omega)]
  refine ⟨h.1, fun i hi => ?_, h.2.2⟩
  rw [e3 i]
  exact h.2.1 i hi
section YZ
variable {p : Program} {l : Launch} {e : Env} {R : Room} {s : State} {m : MethodId} {args : Array Value} {below : List Frame} {meth : Method} {c : Code} {D : va_G} {cI cZ : ClassId} {A : Nat → Prop} {lsC : Array Slot} {sh : List sx_H} {Q : State → Prop} {own : String} {cc : ByteArray} {pc : Nat} {q : SQ} {cells slots : Nat}
theorem y_zz {ad : Nat → Nat} {h0 ci : Nat} {fs : List Value} {w : va_W} (he : ((h0, (.inr (ci, fs) : va_E)) :: w) = sx_cw sh cI cZ ad zQ) (k : ZZ p l e R s m args below meth c D cI cZ A lsC sh ad Q pc [] zQ cells slots) : YY p l e R s m args below meth c D A lsC h0 ci Q pc fs w cells slots := fun H locs hP hD hS => by
  rw [he] at hP hD
  exact k H locs hP hD hS
theorem z_ret {ad ad0 : Nat → Nat} {h0 : Nat} (B : yB p own cc s m args meth c D cI cZ A lsC h0) (d : decode cc pc = .ok (.return_, 1)) (h9 : ad 0 = h0 ∧ ∀ k, 1000 ≤ k → ad k = ad0 k) : ZZ p l e R s m args below meth c D cI cZ A lsC sh ad (MQ below (va_Qv (fun ad : Nat → Nat => ad 0 = h0 ∧ ∀ k, 1000 ≤ k → ad k = ad0 k) (fun ad t => va_P D vwCl (sx_cw sh cI cZ ad q) t.heap ∧ va_K D vwCl (tfM cI cZ) t ∧ va_D A (sx_cw sh cI cZ ad q)) A) args s cells slots A) pc [] q cells slots := by
  obtain ⟨hx, hb, hr, hlk, hml, hown, hts, hK, hA, hls, hin, hN⟩ := B
  intro H locs hP hD hS
  exact W.vret hx hb hr (fun t ht hW => ⟨⟨ad, rfl, h9, by rw [ht]; exact hP, va_K.moved hW.alike hK, hD⟩, hS.F ht⟩) hS.2.2 d hlk
theorem z_getsT {ad : Nat → Nat} {st : List Value} {n : Nat} (B : yB p own cc s m args meth c D cI cZ A lsC (ad 0)) (hKx : KX ad A s s.heap) (d : decode cc pc = .ok (.getstatic n, 3)) (hln : Cond.fieldLink own n "StarChart" "TUNE_FIRST" "[I" ∈ GG) (k : ZZ p l e R s m args below meth c D cI cZ A lsC sh ad Q (pc + 3) (.ref 1012 :: st) q cells slots) : ZZ p l e R s m args below meth c D cI cZ A lsC sh ad Q pc st q cells slots := by
  obtain ⟨hx, hb, hr, hlk, hml, hown, hts, hK, hA, hls, hin, hN⟩ := B
  intro H locs hP hD hS
  exact va_gets hx hb hKx.2.2.2.2.1.1 hS hown (hts _ hln) (fun _ h => h) d (k H locs hP hD hS)
end YZ
theorem cwI_X0 (cI cZ : ClassId) (ad : Nat → Nat) : sx_cw shI_X0 cI cZ ad zQ = [(ad 0, .inr (0, [.int 0, .int 0, .ref (ad 1), .ref (ad 2), .ref (ad 3)])), (ad 1, .inl (cI, 8, .inl (fun _ => 0))), (ad 2, .inl (cI, 8, .inl (fun _ => 0))), (ad 3, .inl (cI, 8, .inl (fun _ => 0)))] := rfl
theorem cwI_X2 (cI cZ : ClassId) (ad : Nat → Nat) : sx_cw shI_X2 cI cZ ad zQ = [(ad 0, .inr (2, [.int 0, .int 0, .ref (ad 1), .ref (ad 2), .ref (ad 3)])), (ad 1, .inl (cI, 8, .inl (fun _ => 0))), (ad 2, .inl (cI, 8, .inl (fun _ => 0))), (ad 3, .inl (cI, 8, .inl (fun _ => 0)))] := rfl
theorem cwI_X5 (cI cZ : ClassId) (ad : Nat → Nat) : sx_cw shI_X5 cI cZ ad zQ = [(ad 0, .inr (5, [.int 0, .ref (ad 1), .ref (ad 2)])), (ad 1, .inl (cI, 30, .inl (fun _ => 0))), (ad 2, .inl (cI, 30, .inl (fun _ => 0)))] := rfl
theorem cwI_X4 (cI cZ : ClassId) (ad : Nat → Nat) : sx_cw shI_X4 cI cZ ad zQ = [(ad 0, .inr (4, [.int 0, .int 0, .ref (ad 1), .ref (ad 2), .ref (ad 3), .ref (ad 4), .ref (ad 5), .ref (ad 6), .int 0, .int 0, .int 0, .int 0])), (ad 1, .inl (cI, 8, .inl (fun _ => 0))), (ad 2, .inl (cI, 8, .inl (fun _ => 0))), (ad 3, .inl (cI, 8, .inl (fun _ => 0))), (ad 4, .inl (cI, 4, .inl (fun _ => 0))), (ad 5, .inl (cI, 4, .inl (fun _ => 0))), (ad 6, .inl (cI, 4, .inl (fun _ => 0)))] := rfl
theorem cwI_X1 (cI cZ : ClassId) (ad : Nat → Nat) : sx_cw shI_X1 cI cZ ad zQ = [(ad 0, .inr (1, [.int 0, .int 0, .ref (ad 1)])), (ad 1, .inr (0, [.int 0, .int 0, .ref (ad 2), .ref (ad 3), .ref (ad 4)])), (ad 2, .inl (cI, 8, .inl (fun _ => 0))), (ad 3, .inl (cI, 8, .inl (fun _ => 0))), (ad 4, .inl (cI, 8, .inl (fun _ => 0)))] := rfl
theorem cwI_X3 (cI cZ : ClassId) (ad : Nat → Nat) : sx_cw shI_X3 cI cZ ad zQ = [(ad 0, .inr (3, [.int 0, .ref (ad 1), .ref (ad 2), .ref (ad 9), .ref (ad 10), .int 0, .int 0])), (ad 1, .inl (cI, 400, .inl (fun _ => 0))), (ad 2, .inr (4, [.int 0, .int 0, .ref (ad 3), .ref (ad 4), .ref (ad 5), .ref (ad 6), .ref (ad 7), .ref (ad 8), .int 0, .int 0, .int 0, .int 0])), (ad 3, .inl (cI, 8, .inl (fun _ => 0))), (ad 4, .inl (cI, 8, .inl (fun _ => 0))), (ad 5, .inl (cI, 8, .inl (fun _ => 0))), (ad 6, .inl (cI, 4, .inl (fun _ => 0))), (ad 7, .inl (cI, 4, .inl (fun _ => 0))), (ad 8, .inl (cI, 4, .inl (fun _ => 0))), (ad 9, .inl (cI, 401, .inl (fun _ => 0))), (ad 10, .inl (cI, 401, .inl (fun _ => 0)))] := rfl
set_option maxRecDepth 20000 in
set_option maxHeartbeats 1000000 in
theorem cw_X (cI cZ : ClassId) (ad : Nat → Nat) : sx_cw shX cI cZ ad zQ = [(ad 0, .inr (6, [.ref (ad 1), .ref (ad 8), .ref (ad 19), .ref (ad 23), .ref (ad 24), .ref (ad 29), .ref (ad 34), .ref (ad 37), .ref (ad 41), .ref (ad 48), .int 0, .long 0])), (ad 1, .inr (4, [.int 0, .int 0, .ref (ad 2), .ref (ad 3), .ref (ad 4), .ref (ad 5), .ref (ad 6), .ref (ad 7), .int 0, .int 0, .int 0, .int 0])), (ad 2, .inl (cI, 8, .inl (fun _ => 0))), (ad 3, .inl (cI, 8, .inl (fun _ => 0))), (ad 4, .inl (cI, 8, .inl (fun _ => 0))), (ad 5, .inl (cI, 4, .inl (fun _ => 0))), (ad 6, .inl (cI, 4, .inl (fun _ => 0))), (ad 7, .inl (cI, 4, .inl (fun _ => 0))), (ad 8, .inr (3, [.int 0, .ref (ad 9), .ref (ad 10), .ref (ad 17), .ref (ad 18), .int 0, .int 0])), (ad 9, .inl (cI, 400, .inl (fun _ => 0))), (ad 10, .inr (4, [.int 0, .int 0, .ref (ad 11), .ref (ad 12), .ref (ad 13), .ref (ad 14), .ref (ad 15), .ref (ad 16), .int 0, .int 0, .int 0, .int 0])), (ad 11, .inl (cI, 8, .inl (fun _ => 0))), (ad 12, .inl (cI, 8, .inl (fun _ => 0))), (ad 13, .inl (cI, 8, .inl (fun _ => 0))), (ad 14, .inl (cI, 4, .inl (fun _ => 0))), (ad 15, .inl (cI, 4, .inl (fun _ => 0))), (ad 16, .inl (cI, 4, .inl (fun _ => 0))), (ad 17, .inl (cI, 401, .inl (fun _ => 0))), (ad 18, .inl (cI, 401, .inl (fun _ => 0))), (ad 19, .inr (0, [.int 0, .int 0, .ref (ad 20), .ref (ad 21), .ref (ad 22)])), (ad 20, .inl (cI, 8, .inl (fun _ => 0))), (ad 21, .inl (cI, 8, .inl (fun _ => 0))), (ad 22, .inl (cI, 8, .inl (fun _ => 0))), (ad 23, .inl (cI, 6, .inl (fun _ => 0))), (ad 24, .inr (1, [.int 0, .int 0, .ref (ad 25)])), (ad 25, .inr (0, [.int 0, .int 0, .ref (ad 26), .ref (ad 27), .ref (ad 28)])), (ad 26, .inl (cI, 8, .inl (fun _ => 0))), (ad 27, .inl (cI, 8, .inl (fun _ => 0))), (ad 28, .inl (cI, 8, .inl (fun _ => 0))), (ad 29, .inr (1, [.int 0, .int 0, .ref (ad 30)])), (ad 30, .inr (0, [.int 0, .int 0, .ref (ad 31), .ref (ad 32), .ref (ad 33)])), (ad 31, .inl (cI, 8, .inl (fun _ => 0))), (ad 32, .inl (cI, 8, .inl (fun _ => 0))), (ad 33, .inl (cI, 8, .inl (fun _ => 0))), (ad 34, .inr (5, [.int 0, .ref (ad 35), .ref (ad 36)])), (ad 35, .inl (cI, 30, .inl (fun _ => 0))), (ad 36, .inl (cI, 30, .inl (fun _ => 0))), (ad 37, .inr (2, [.int 0, .int 0, .ref (ad 38), .ref (ad 39), .ref (ad 40)])), (ad 38, .inl (cI, 8, .inl (fun _ => 0))), (ad 39, .inl (cI, 8, .inl (fun _ => 0))), (ad 40, .inl (cI, 8, .inl (fun _ => 0))), (ad 41, .inr (4, [.int 0, .int 0, .ref (ad 42), .ref (ad 43), .ref (ad 44), .ref (ad 45), .ref (ad 46), .ref (ad 47), .int 0, .int 0, .int 0, .int 0])), (ad 42, .inl (cI, 8, .inl (fun _ => 0))), (ad 43, .inl (cI, 8, .inl (fun _ => 0))), (ad 44, .inl (cI, 8, .inl (fun _ => 0))), (ad 45, .inl (cI, 4, .inl (fun _ => 0))), (ad 46, .inl (cI, 4, .inl (fun _ => 0))), (ad 47, .inl (cI, 4, .inl (fun _ => 0))), (ad 48, .inr (0, [.int 0, .int 0, .ref (ad 49), .ref (ad 50), .ref (ad 51)])), (ad 49, .inl (cI, 8, .inl (fun _ => 0))), (ad 50, .inl (cI, 8, .inl (fun _ => 0))), (ad 51, .inl (cI, 8, .inl (fun _ => 0)))] := by
  simp only [sx_cw, shX, List.mapIdx_cons, List.mapIdx_nil, Nat.reduceAdd]
  rfl
theorem mi_X6_init : yMI yX6_init cX6_init := ⟨by decide, ⟨by decide, by decide, by decide +kernel⟩, rfl, gw_78, gw_60, gw_77⟩
theorem fs0_X6 : ∀ j, j < 12 → defaultValue (tyX6 j) = vp_V [.null, .null, .null, .null, .null, .null, .null, .null, .null, .null, .int 0, .long 0] j := fun j hj => by
  rcases (show j = 0 ∨ j = 1 ∨ j = 2 ∨ j = 3 ∨ j = 4 ∨ j = 5 ∨ j = 6 ∨ j = 7 ∨ j = 8 ∨ j = 9 ∨ j = 10 ∨ j = 11 by omega) with rfl | rfl | rfl | rfl | rfl | rfl | rfl | rfl | rfl | rfl | rfl | rfl <;> rfl
def fsX6 : List Value := [.null, .null, .null, .null, .null, .null, .null, .null, .null, .null, .int 0, .long 0]
def qX3 : SQ := sA (sL (sI zQ 0 10 1) 0 11 0) 23 (va_cpy tFirst ((sL (sI zQ 0 10 1) 0 11 0).1 23) 0 0 6)
set_option maxRecDepth 20000 in
set_option maxHeartbeats 1000000 in
theorem ig_X6 (l : Launch) {q4 q5 : SQ} (h4 : F4_wipe 1 qX3 = some ((), q4)) (h5 : F0_begin 19 1 0 q4 = some ((), q5)) : IG l yX6_init cX6_init 3 52 51 1573 6 [.null, .null, .null, .null, .null, .null, .null, .null, .null, .null, .int 0, .long 0] shX KX q5 := by
  refine IG.of mi_X6_init (fun p e s m args below meth c D ad0 cI cZ A lsC h0 B hKx => ?_)
  refine y_start (pc := 0) B gw_79 gw_80 gw_81 dX6_init_0 dX6_init_1 ⟨Nat.le_of_ble_eq_true rfl, Nat.le_of_ble_eq_true rfl⟩ ?_
  refine y_new (pc := 4) (cells := 0) (slots := 0) (k := 0) (N := 12) B (ic_X4 l) mi_X4_init rfl cb_X4 fs0_X4 gw_82 gw_83 (List.mem_of_getElem? (i := 0) rfl) cb_X6 ⟨by decide, rfl, gw_292⟩ rfl rfl dX6_init_4 dX6_init_5 dX6_init_8 dX6_init_9 dX6_init_12 ⟨Nat.le_of_ble_eq_true rfl, Nat.le_of_ble_eq_true rfl⟩ ⟨Nat.le_of_ble_eq_true rfl, Nat.le_of_ble_eq_true rfl⟩ (fun ad1 => ?_)
  refine y_new (pc := 15) (cells := 7) (slots := 48) (k := 1) (N := 12) B (ic_X3 l) mi_X3_init rfl cb_X3 fs0_X3 gw_147 gw_148 (List.mem_of_getElem? (i := 1) rfl) cb_X6 ⟨by decide, rfl, gw_293⟩ rfl rfl dX6_init_15 dX6_init_16 dX6_init_19 dX6_init_20 dX6_init_23 ⟨Nat.le_of_ble_eq_true rfl, Nat.le_of_ble_eq_true rfl⟩ ⟨Nat.le_of_ble_eq_true rfl, Nat.le_of_ble_eq_true rfl⟩ (fun ad2 => ?_)
  refine y_new (pc := 26) (cells := 18) (slots := 1305) (k := 2) (N := 12) B (ic_X0 l) mi_X0_init rfl cb_X0 fs0_X0 gw_179 gw_180 (List.mem_of_getElem? (i := 3) rfl) cb_X6 ⟨by decide, rfl, gw_294⟩ rfl rfl dX6_init_26 dX6_init_27 dX6_init_30 dX6_init_31 dX6_init_34 ⟨Nat.le_of_ble_eq_true rfl, Nat.le_of_ble_eq_true rfl⟩ ⟨Nat.le_of_ble_eq_true rfl, Nat.le_of_ble_eq_true rfl⟩ (fun ad3 => ?_)
  refine y_arr (pc := 37) (cells := 22) (slots := 1334) (k := 3) (N := 12) (v := 6) B gw_146 cb_X6 ⟨by decide, rfl, gw_295⟩ rfl rfl dX6_init_37 (Or.inr (Or.inl ⟨6, dX6_init_38, by decide, rfl⟩)) dX6_init_40 dX6_init_42 (by decide) (by decide : (6 : Int32).toNatClampNeg = 6) (by omega) ⟨Nat.le_of_ble_eq_true rfl, Nat.le_of_ble_eq_true rfl⟩ (fun a4 => ?_)
  refine y_new (pc := 45) (cells := 23) (slots := 1340) (k := 4) (N := 12) B (ic_X1 l) mi_X1_init rfl cb_X1 fs0_X1 gw_206 gw_207 (List.mem_of_getElem? (i := 4) rfl) cb_X6 ⟨by decide, rfl, gw_296⟩ rfl rfl dX6_init_45 dX6_init_46 dX6_init_49 dX6_init_50 dX6_init_53 ⟨Nat.le_of_ble_eq_true rfl, Nat.le_of_ble_eq_true rfl⟩ ⟨Nat.le_of_ble_eq_true rfl, Nat.le_of_ble_eq_true rfl⟩ (fun ad5 => ?_)
  refine y_new (pc := 56) (cells := 28) (slots := 1372) (k := 5) (N := 12) B (ic_X1 l) mi_X1_init rfl cb_X1 fs0_X1 gw_206 gw_207 (List.mem_of_getElem? (i := 4) rfl) cb_X6 ⟨by decide, rfl, gw_297⟩ rfl rfl dX6_init_56 dX6_init_57 dX6_init_60 dX6_init_61 dX6_init_64 ⟨Nat.le_of_ble_eq_true rfl, Nat.le_of_ble_eq_true rfl⟩ ⟨Nat.le_of_ble_eq_true rfl, Nat.le_of_ble_eq_true rfl⟩ (fun ad6 => ?_)
  refine y_new (pc := 67) (cells := 33) (slots := 1404) (k := 6) (N := 12) B (ic_X5 l) mi_X5_init rfl cb_X5 fs0_X5 gw_227 gw_228 (List.mem_of_getElem? (i := 6) rfl) cb_X6 ⟨by decide, rfl, gw_298⟩ rfl rfl dX6_init_67 dX6_init_68 dX6_init_71 dX6_init_72 dX6_init_75 ⟨Nat.le_of_ble_eq_true rfl, Nat.le_of_ble_eq_true rfl⟩ ⟨Nat.le_of_ble_eq_true rfl, Nat.le_of_ble_eq_true rfl⟩ (fun ad7 => ?_)
  refine y_new (pc := 78) (cells := 36) (slots := 1467) (k := 7) (N := 12) B (ic_X2 l) mi_X2_init rfl cb_X2 fs0_X2 gw_244 gw_245 (List.mem_of_getElem? (i := 7) rfl) cb_X6 ⟨by decide, rfl, gw_299⟩ rfl rfl dX6_init_78 dX6_init_79 dX6_init_82 dX6_init_83 dX6_init_86 ⟨Nat.le_of_ble_eq_true rfl, Nat.le_of_ble_eq_true rfl⟩ ⟨Nat.le_of_ble_eq_true rfl, Nat.le_of_ble_eq_true rfl⟩ (fun ad8 => ?_)
  refine y_new (pc := 89) (cells := 40) (slots := 1496) (k := 8) (N := 12) B (ic_X4 l) mi_X4_init rfl cb_X4 fs0_X4 gw_82 gw_83 (List.mem_of_getElem? (i := 0) rfl) cb_X6 ⟨by decide, rfl, gw_300⟩ rfl rfl dX6_init_89 dX6_init_90 dX6_init_93 dX6_init_94 dX6_init_97 ⟨Nat.le_of_ble_eq_true rfl, Nat.le_of_ble_eq_true rfl⟩ ⟨Nat.le_of_ble_eq_true rfl, Nat.le_of_ble_eq_true rfl⟩ (fun ad9 => ?_)
  refine y_new (pc := 100) (cells := 47) (slots := 1544) (k := 9) (N := 12) B (ic_X0 l) mi_X0_init rfl cb_X0 fs0_X0 gw_179 gw_180 (List.mem_of_getElem? (i := 3) rfl) cb_X6 ⟨by decide, rfl, gw_301⟩ rfl rfl dX6_init_100 dX6_init_101 dX6_init_104 dX6_init_105 dX6_init_108 ⟨Nat.le_of_ble_eq_true rfl, Nat.le_of_ble_eq_true rfl⟩ ⟨Nat.le_of_ble_eq_true rfl, Nat.le_of_ble_eq_true rfl⟩ (fun ad10 => ?_)
  obtain ⟨ad, hadx⟩ : ∃ ad : Nat → Nat, ad = fun k => if 1000 ≤ k then ad0 k else [h0, ad1 0, ad1 1, ad1 2, ad1 3, ad1 4, ad1 5, ad1 6, ad2 0, ad2 1, ad2 2, ad2 3, ad2 4, ad2 5, ad2 6, ad2 7, ad2 8, ad2 9, ad2 10, ad3 0, ad3 1, ad3 2, ad3 3, a4, ad5 0, ad5 1, ad5 2, ad5 3, ad5 4, ad6 0, ad6 1, ad6 2, ad6 3, ad6 4, ad7 0, ad7 1, ad7 2, ad8 0, ad8 1, ad8 2, ad8 3, ad9 0, ad9 1, ad9 2, ad9 3, ad9 4, ad9 5, ad9 6, ad10 0, ad10 1, ad10 2, ad10 3].getD k 0 := ⟨_, rfl⟩
  have adq : ad 0 = h0 ∧ ∀ k, 1000 ≤ k → ad k = ad0 k := by
    rw [hadx]
    exact ⟨rfl, fun k hk => if_pos hk⟩
  have k9_0 : ad 0 = h0 := by rw [hadx]; rfl
  have k9_1 : ad 1 = ad1 0 := by rw [hadx]; rfl
  have k9_2 : ad 2 = ad1 1 := by rw [hadx]; rfl
  have k9_3 : ad 3 = ad1 2 := by rw [hadx]; rfl
  have k9_4 : ad 4 = ad1 3 := by rw [hadx]; rfl
  have k9_5 : ad 5 = ad1 4 := by rw [hadx]; rfl
  have k9_6 : ad 6 = ad1 5 := by rw [hadx]; rfl
  have k9_7 : ad 7 = ad1 6 := by rw [hadx]; rfl
  have k9_8 : ad 8 = ad2 0 := by rw [hadx]; rfl
  have k9_9 : ad 9 = ad2 1 := by rw [hadx]; rfl
  have k9_10 : ad 10 = ad2 2 := by rw [hadx]; rfl
  have k9_11 : ad 11 = ad2 3 := by rw [hadx]; rfl
  have k9_12 : ad 12 = ad2 4 := by rw [hadx]; rfl
  have k9_13 : ad 13 = ad2 5 := by rw [hadx]; rfl
  have k9_14 : ad 14 = ad2 6 := by rw [hadx]; rfl
  have k9_15 : ad 15 = ad2 7 := by rw [hadx]; rfl
  have k9_16 : ad 16 = ad2 8 := by rw [hadx]; rfl
  have k9_17 : ad 17 = ad2 9 := by rw [hadx]; rfl
  have k9_18 : ad 18 = ad2 10 := by rw [hadx]; rfl
  have k9_19 : ad 19 = ad3 0 := by rw [hadx]; rfl
  have k9_20 : ad 20 = ad3 1 := by rw [hadx]; rfl
  have k9_21 : ad 21 = ad3 2 := by rw [hadx]; rfl
  have k9_22 : ad 22 = ad3 3 := by rw [hadx]; rfl
  have k9_23 : ad 23 = a4 := by rw [hadx]; rfl
  have k9_24 : ad 24 = ad5 0 := by rw [hadx]; rfl
  have k9_25 : ad 25 = ad5 1 := by rw [hadx]; rfl
  have k9_26 : ad 26 = ad5 2 := by rw [hadx]; rfl
  have k9_27 : ad 27 = ad5 3 := by rw [hadx]; rfl
  have k9_28 : ad 28 = ad5 4 := by rw [hadx]; rfl
  have k9_29 : ad 29 = ad6 0 := by rw [hadx]; rfl
  have k9_30 : ad 30 = ad6 1 := by rw [hadx]; rfl
  have k9_31 : ad 31 = ad6 2 := by rw [hadx]; rfl
  have k9_32 : ad 32 = ad6 3 := by rw [hadx]; rfl
  have k9_33 : ad 33 = ad6 4 := by rw [hadx]; rfl
  have k9_34 : ad 34 = ad7 0 := by rw [hadx]; rfl
  have k9_35 : ad 35 = ad7 1 := by rw [hadx]; rfl
  have k9_36 : ad 36 = ad7 2 := by rw [hadx]; rfl
  have k9_37 : ad 37 = ad8 0 := by rw [hadx]; rfl
  have k9_38 : ad 38 = ad8 1 := by rw [hadx]; rfl
  have k9_39 : ad 39 = ad8 2 := by rw [hadx]; rfl
  have k9_40 : ad 40 = ad8 3 := by rw [hadx]; rfl
  have k9_41 : ad 41 = ad9 0 := by rw [hadx]; rfl
  have k9_42 : ad 42 = ad9 1 := by rw [hadx]; rfl
  have k9_43 : ad 43 = ad9 2 := by rw [hadx]; rfl
  have k9_44 : ad 44 = ad9 3 := by rw [hadx]; rfl
  have k9_45 : ad 45 = ad9 4 := by rw [hadx]; rfl
  have k9_46 : ad 46 = ad9 5 := by rw [hadx]; rfl
  have k9_47 : ad 47 = ad9 6 := by rw [hadx]; rfl
  have k9_48 : ad 48 = ad10 0 := by rw [hadx]; rfl
  have k9_49 : ad 49 = ad10 1 := by rw [hadx]; rfl
  have k9_50 : ad 50 = ad10 2 := by rw [hadx]; rfl
  have k9_51 : ad 51 = ad10 3 := by rw [hadx]; rfl
  have heq9 : ((h0, (.inr (6, (((((((((([.null, .null, .null, .null, .null, .null, .null, .null, .null, .null, .int 0, .long 0]).set 0 (.ref (ad1 0))).set 1 (.ref (ad2 0))).set 2 (.ref (ad3 0))).set 3 (.ref a4)).set 4 (.ref (ad5 0))).set 5 (.ref (ad6 0))).set 6 (.ref (ad7 0))).set 7 (.ref (ad8 0))).set 8 (.ref (ad9 0))).set 9 (.ref (ad10 0))) : va_E)) :: (((((((((([] ++ sx_cw shI_X4 cI cZ ad1 zQ) ++ sx_cw shI_X3 cI cZ ad2 zQ) ++ sx_cw shI_X0 cI cZ ad3 zQ) ++ [(a4, .inl (cI, 6, .inl (fun _ => 0)))]) ++ sx_cw shI_X1 cI cZ ad5 zQ) ++ sx_cw shI_X1 cI cZ ad6 zQ) ++ sx_cw shI_X5 cI cZ ad7 zQ) ++ sx_cw shI_X2 cI cZ ad8 zQ) ++ sx_cw shI_X4 cI cZ ad9 zQ) ++ sx_cw shI_X0 cI cZ ad10 zQ)) = sx_cw shX cI cZ ad zQ := by
    rw [cw_X, k9_0, k9_1, k9_2, k9_3, k9_4, k9_5, k9_6, k9_7, k9_8, k9_9, k9_10, k9_11, k9_12, k9_13, k9_14, k9_15, k9_16, k9_17, k9_18, k9_19, k9_20, k9_21, k9_22, k9_23, k9_24, k9_25, k9_26, k9_27, k9_28, k9_29, k9_30, k9_31, k9_32, k9_33, k9_34, k9_35, k9_36, k9_37, k9_38, k9_39, k9_40, k9_41, k9_42, k9_43, k9_44, k9_45, k9_46, k9_47, k9_48, k9_49, k9_50, k9_51]
    simp only [cwI_X0, cwI_X1, cwI_X2, cwI_X3, cwI_X4, cwI_X5, List.nil_append, List.cons_append, List.set_cons_zero, List.set_cons_succ]
  have hKx := hKx.ad adq.2
  refine y_zz (pc := 111) (ad := ad) (cI := cI) (cZ := cZ) (sh := shX) heq9 ?_
  have B9 : yB p "StarChart" cX6_init s m args meth c D cI cZ A lsC (ad 0) := by rw [adq.1]; exact B
  refine z_al (pc := 111) B9 dX6_init_111 ?_
  refine z_push (pc := 112) B9 (Or.inl ⟨1, dX6_init_112, by decide, rfl⟩ : yPush cX6_init 112 1 1) ?_
  refine z_putI (pc := 113) (o := 0) (k9 := 10) B9 dX6_init_113 shX_0 rfl cb_X6 ⟨by decide, rfl, gw_302⟩ rfl (by decide) ?_
  refine z_al (pc := 116) B9 dX6_init_116 ?_
  refine z_lconst (pc := 117) (v := 0) B9 dX6_init_117 (by decide) ?_
  refine z_putL (pc := 118) (o := 0) (k9 := 11) B9 dX6_init_118 shX_0 rfl cb_X6 ⟨by decide, rfl, gw_303⟩ rfl (by decide) ?_
  refine z_getsT (pc := 121) B9 hKx dX6_init_121 gw_271 ?_
  refine z_push (pc := 124) B9 (Or.inl ⟨0, dX6_init_124, by decide, rfl⟩ : yPush cX6_init 124 0 1) ?_
  refine z_al (pc := 125) B9 dX6_init_125 ?_
  refine z_getR (pc := 126) (o := 0) (k9 := 3) B9 dX6_init_126 shX_0 rfl cb_X6 ⟨by decide, rfl, gw_295⟩ ?_
  refine z_push (pc := 129) B9 (Or.inl ⟨0, dX6_init_129, by decide, rfl⟩ : yPush cX6_init 129 0 1) ?_
  refine z_push (pc := 130) B9 (Or.inr (Or.inl ⟨6, dX6_init_130, by decide, rfl⟩) : yPush cX6_init 130 6 2) ?_
  refine fun H locs hP hD hS => z_copyT (pc := 132) (st := []) (o := 23) (n9 := 6) B9 hKx.2.2.2.2.1.2 shX_23 gw_273 gw_copy (by decide) (by decide) (by omega) (by omega) (Nat.le_of_ble_eq_true rfl) (Nat.le_of_ble_eq_true rfl) dX6_init_132 ?_ hP hD hS
  refine z_al (pc := 135) B9 dX6_init_135 ?_
  refine z_getR (pc := 136) (o := 0) (k9 := 0) B9 dX6_init_136 shX_0 rfl cb_X6 ⟨by decide, rfl, gw_292⟩ ?_
  refine z_call (pc := 139) (As := []) (st := []) (tf := tfX) B9 KSX hKx (B9.2.2.2.2.2.2.2.1.sub [0] rfl) (F4_wipe_ck l 1 iSh_1 qX3 h4) mi_X4_wipe gw_276 rfl ⟨gw_277, gw_278⟩ shX_1 rfl rfl ⟨Nat.le_of_ble_eq_true rfl, Nat.le_of_ble_eq_true rfl⟩ (Nat.le_of_ble_eq_true rfl) ⟨Nat.le_of_ble_eq_true rfl, Nat.le_of_ble_eq_true rfl⟩ dX6_init_139 ?_
  refine z_al (pc := 142) B9 dX6_init_142 ?_
  refine z_getR (pc := 143) (o := 0) (k9 := 2) B9 dX6_init_143 shX_0 rfl cb_X6 ⟨by decide, rfl, gw_294⟩ ?_
  refine z_al (pc := 146) B9 dX6_init_146 ?_
  refine z_getR (pc := 147) (o := 0) (k9 := 0) B9 dX6_init_147 shX_0 rfl cb_X6 ⟨by decide, rfl, gw_292⟩ ?_
  refine z_push (pc := 150) B9 (Or.inl ⟨0, dX6_init_150, by decide, rfl⟩ : yPush cX6_init 150 0 1) ?_
  refine z_call (pc := 151) (As := [.ref 1, .int 0]) (st := []) (tf := tfX) B9 KSX hKx (B9.2.2.2.2.2.2.2.1.sub [0] rfl) (F0_begin_ck l 19 iCo_19 1 iSh_1 0 q4 h5) mi_X0_begin gw_288 rfl ⟨gw_289, gw_290⟩ shX_19 rfl rfl ⟨Nat.le_of_ble_eq_true rfl, Nat.le_of_ble_eq_true rfl⟩ (Nat.le_of_ble_eq_true rfl) ⟨Nat.le_of_ble_eq_true rfl, Nat.le_of_ble_eq_true rfl⟩ dX6_init_151 ?_
  exact z_ret (pc := 154) B dX6_init_154 adq
theorem mi_X7_init : yMI yX7_init cX7_init := ⟨by decide, ⟨by decide, by decide, by decide +kernel⟩, rfl, gw_785, gw_68, gw_784⟩
theorem fs0_X7 : ∀ j, j < 20 → defaultValue (tyX7 j) = vp_V [.int 0, .long 0, .null, .int 0, .int 0, .int 0, .int 0, .int 0, .int 0, .null, .null, .null, .null, .null, .null, .null, .int 0, .null, .null, .int 0] j := fun j hj => by
  rcases (show j = 0 ∨ j = 1 ∨ j = 2 ∨ j = 3 ∨ j = 4 ∨ j = 5 ∨ j = 6 ∨ j = 7 ∨ j = 8 ∨ j = 9 ∨ j = 10 ∨ j = 11 ∨ j = 12 ∨ j = 13 ∨ j = 14 ∨ j = 15 ∨ j = 16 ∨ j = 17 ∨ j = 18 ∨ j = 19 by omega) with rfl | rfl | rfl | rfl | rfl | rfl | rfl | rfl | rfl | rfl | rfl | rfl | rfl | rfl | rfl | rfl | rfl | rfl | rfl | rfl <;> rfl
def qM7 : SQ := sI (sI (sI (sI (sI (sI (sI (zQ) 3 0 10) 3 1 1) 3 2 6) 3 3 2) 3 4 3) 3 5 1) 4 2 1
set_option maxRecDepth 20000 in
set_option maxHeartbeats 1000000 in
theorem ig_X7 (l : Launch) {q1 q2 : SQ} (h1 : F7_drafts qM7 = some ((), q1)) (h2 : F7_adopts q1 = some ((), q2)) : IG l yX7_init cX7_init 2 43 10 744 7 [.int 0, .long 0, .null, .int 0, .int 0, .int 0, .int 0, .int 0, .int 0, .null, .null, .null, .null, .null, .null, .null, .int 0, .null, .null, .int 0] shM KM q2 := by
  refine IG.of mi_X7_init (fun p e s m args below meth c D ad0 cI cZ A lsC h0 B hKx => ?_)
  refine y_start (pc := 0) B gw_786 gw_80 gw_81 dX7_init_0 dX7_init_1 ⟨Nat.le_of_ble_eq_true rfl, Nat.le_of_ble_eq_true rfl⟩ ?_
  refine y_arr (pc := 4) (cells := 0) (slots := 0) (k := 2) (N := 20) (v := 400) B gw_146 cb_X7 ⟨by decide, rfl, gw_801⟩ rfl rfl dX7_init_4 (Or.inr (Or.inr ⟨400, dX7_init_5, by decide, rfl⟩)) dX7_init_8 dX7_init_10 (by decide) (by decide : (400 : Int32).toNatClampNeg = 400) (by omega) ⟨Nat.le_of_ble_eq_true rfl, Nat.le_of_ble_eq_true rfl⟩ (fun a1 => ?_)
  refine y_arr (pc := 13) (cells := 1) (slots := 400) (k := 9) (N := 20) (v := 84) B gw_146 cb_X7 ⟨by decide, rfl, gw_808⟩ rfl rfl dX7_init_13 (Or.inr (Or.inl ⟨84, dX7_init_14, by decide, rfl⟩)) dX7_init_16 dX7_init_18 (by decide) (by decide : (84 : Int32).toNatClampNeg = 84) (by omega) ⟨Nat.le_of_ble_eq_true rfl, Nat.le_of_ble_eq_true rfl⟩ (fun a2 => ?_)
  refine y_arr (pc := 21) (cells := 2) (slots := 484) (k := 10) (N := 20) (v := 6) B gw_146 cb_X7 ⟨by decide, rfl, gw_809⟩ rfl rfl dX7_init_21 (Or.inr (Or.inl ⟨6, dX7_init_22, by decide, rfl⟩)) dX7_init_24 dX7_init_26 (by decide) (by decide : (6 : Int32).toNatClampNeg = 6) (by omega) ⟨Nat.le_of_ble_eq_true rfl, Nat.le_of_ble_eq_true rfl⟩ (fun a3 => ?_)
  refine y_arr (pc := 29) (cells := 3) (slots := 490) (k := 11) (N := 20) (v := 27) B gw_146 cb_X7 ⟨by decide, rfl, gw_810⟩ rfl rfl dX7_init_29 (Or.inr (Or.inl ⟨27, dX7_init_30, by decide, rfl⟩)) dX7_init_32 dX7_init_34 (by decide) (by decide : (27 : Int32).toNatClampNeg = 27) (by omega) ⟨Nat.le_of_ble_eq_true rfl, Nat.le_of_ble_eq_true rfl⟩ (fun a4 => ?_)
  refine y_arr (pc := 37) (cells := 4) (slots := 517) (k := 12) (N := 20) (v := 54) B gw_146 cb_X7 ⟨by decide, rfl, gw_811⟩ rfl rfl dX7_init_37 (Or.inr (Or.inl ⟨54, dX7_init_38, by decide, rfl⟩)) dX7_init_40 dX7_init_42 (by decide) (by decide : (54 : Int32).toNatClampNeg = 54) (by omega) ⟨Nat.le_of_ble_eq_true rfl, Nat.le_of_ble_eq_true rfl⟩ (fun a5 => ?_)
  refine y_arz (pc := 45) (cells := 5) (slots := 571) (k := 13) (N := 20) (v := 2) B gw_860 cb_X7 ⟨by decide, rfl, gw_812⟩ rfl rfl dX7_init_45 (Or.inl ⟨2, dX7_init_46, by decide, rfl⟩) dX7_init_47 dX7_init_49 (by decide) (by decide : (2 : Int32).toNatClampNeg = 2) (by omega) ⟨Nat.le_of_ble_eq_true rfl, Nat.le_of_ble_eq_true rfl⟩ (fun a6 => ?_)
  refine y_arr (pc := 52) (cells := 6) (slots := 573) (k := 14) (N := 20) (v := 27) B gw_146 cb_X7 ⟨by decide, rfl, gw_813⟩ rfl rfl dX7_init_52 (Or.inr (Or.inl ⟨27, dX7_init_53, by decide, rfl⟩)) dX7_init_55 dX7_init_57 (by decide) (by decide : (27 : Int32).toNatClampNeg = 27) (by omega) ⟨Nat.le_of_ble_eq_true rfl, Nat.le_of_ble_eq_true rfl⟩ (fun a7 => ?_)
  refine y_arr (pc := 60) (cells := 7) (slots := 600) (k := 15) (N := 20) (v := 84) B gw_146 cb_X7 ⟨by decide, rfl, gw_814⟩ rfl rfl dX7_init_60 (Or.inr (Or.inl ⟨84, dX7_init_61, by decide, rfl⟩)) dX7_init_63 dX7_init_65 (by decide) (by decide : (84 : Int32).toNatClampNeg = 84) (by omega) ⟨Nat.le_of_ble_eq_true rfl, Nat.le_of_ble_eq_true rfl⟩ (fun a8 => ?_)
  refine y_arr (pc := 68) (cells := 8) (slots := 684) (k := 17) (N := 20) (v := 30) B gw_146 cb_X7 ⟨by decide, rfl, gw_816⟩ rfl rfl dX7_init_68 (Or.inr (Or.inl ⟨30, dX7_init_69, by decide, rfl⟩)) dX7_init_71 dX7_init_73 (by decide) (by decide : (30 : Int32).toNatClampNeg = 30) (by omega) ⟨Nat.le_of_ble_eq_true rfl, Nat.le_of_ble_eq_true rfl⟩ (fun a9 => ?_)
  refine y_arr (pc := 76) (cells := 9) (slots := 714) (k := 18) (N := 20) (v := 30) B gw_146 cb_X7 ⟨by decide, rfl, gw_817⟩ rfl rfl dX7_init_76 (Or.inr (Or.inl ⟨30, dX7_init_77, by decide, rfl⟩)) dX7_init_79 dX7_init_81 (by decide) (by decide : (30 : Int32).toNatClampNeg = 30) (by omega) ⟨Nat.le_of_ble_eq_true rfl, Nat.le_of_ble_eq_true rfl⟩ (fun a10 => ?_)
  obtain ⟨ad, hadx⟩ : ∃ ad : Nat → Nat, ad = fun k => if 1000 ≤ k then ad0 k else [h0, a1, a2, a3, a4, a5, a6, a7, a8, a9, a10].getD k 0 := ⟨_, rfl⟩
  have adq : ad 0 = h0 ∧ ∀ k, 1000 ≤ k → ad k = ad0 k := by
    rw [hadx]
    exact ⟨rfl, fun k hk => if_pos hk⟩
  refine y_zz (pc := 84) (ad := ad) (cI := cI) (cZ := cZ) (sh := shM) (by rw [hadx]; rfl) ?_
  have B9 : yB p "StarChartModel" cX7_init s m args meth c D cI cZ A lsC (ad 0) := by rw [adq.1]; exact B
  refine z_al (pc := 84) B9 dX7_init_84 ?_
  refine z_getR (pc := 85) (o := 0) (k9 := 10) B9 dX7_init_85 shM_0 rfl cb_X7 ⟨by decide, rfl, gw_809⟩ ?_
  refine z_push (pc := 88) B9 (Or.inl ⟨0, dX7_init_88, by decide, rfl⟩ : yPush cX7_init 88 0 1) ?_
  refine z_push (pc := 89) B9 (Or.inr (Or.inl ⟨10, dX7_init_89, by decide, rfl⟩) : yPush cX7_init 89 10 2) ?_
  refine z_iast (pc := 91) (o := 3) (n := 6) (j9 := 0) B9 dX7_init_91 shM_3 (by decide) (by decide) ?_
  refine z_al (pc := 92) B9 dX7_init_92 ?_
  refine z_getR (pc := 93) (o := 0) (k9 := 10) B9 dX7_init_93 shM_0 rfl cb_X7 ⟨by decide, rfl, gw_809⟩ ?_
  refine z_push (pc := 96) B9 (Or.inl ⟨1, dX7_init_96, by decide, rfl⟩ : yPush cX7_init 96 1 1) ?_
  refine z_push (pc := 97) B9 (Or.inl ⟨1, dX7_init_97, by decide, rfl⟩ : yPush cX7_init 97 1 1) ?_
  refine z_iast (pc := 98) (o := 3) (n := 6) (j9 := 1) B9 dX7_init_98 shM_3 (by decide) (by decide) ?_
  refine z_al (pc := 99) B9 dX7_init_99 ?_
  refine z_getR (pc := 100) (o := 0) (k9 := 10) B9 dX7_init_100 shM_0 rfl cb_X7 ⟨by decide, rfl, gw_809⟩ ?_
  refine z_push (pc := 103) B9 (Or.inl ⟨2, dX7_init_103, by decide, rfl⟩ : yPush cX7_init 103 2 1) ?_
  refine z_push (pc := 104) B9 (Or.inr (Or.inl ⟨6, dX7_init_104, by decide, rfl⟩) : yPush cX7_init 104 6 2) ?_
  refine z_iast (pc := 106) (o := 3) (n := 6) (j9 := 2) B9 dX7_init_106 shM_3 (by decide) (by decide) ?_
  refine z_al (pc := 107) B9 dX7_init_107 ?_
  refine z_getR (pc := 108) (o := 0) (k9 := 10) B9 dX7_init_108 shM_0 rfl cb_X7 ⟨by decide, rfl, gw_809⟩ ?_
  refine z_push (pc := 111) B9 (Or.inl ⟨3, dX7_init_111, by decide, rfl⟩ : yPush cX7_init 111 3 1) ?_
  refine z_push (pc := 112) B9 (Or.inl ⟨2, dX7_init_112, by decide, rfl⟩ : yPush cX7_init 112 2 1) ?_
  refine z_iast (pc := 113) (o := 3) (n := 6) (j9 := 3) B9 dX7_init_113 shM_3 (by decide) (by decide) ?_
  refine z_al (pc := 114) B9 dX7_init_114 ?_
  refine z_getR (pc := 115) (o := 0) (k9 := 10) B9 dX7_init_115 shM_0 rfl cb_X7 ⟨by decide, rfl, gw_809⟩ ?_
  refine z_push (pc := 118) B9 (Or.inl ⟨4, dX7_init_118, by decide, rfl⟩ : yPush cX7_init 118 4 1) ?_
  refine z_push (pc := 119) B9 (Or.inl ⟨3, dX7_init_119, by decide, rfl⟩ : yPush cX7_init 119 3 1) ?_
  refine z_iast (pc := 120) (o := 3) (n := 6) (j9 := 4) B9 dX7_init_120 shM_3 (by decide) (by decide) ?_
  refine z_al (pc := 121) B9 dX7_init_121 ?_
  refine z_getR (pc := 122) (o := 0) (k9 := 10) B9 dX7_init_122 shM_0 rfl cb_X7 ⟨by decide, rfl, gw_809⟩ ?_
  refine z_push (pc := 125) B9 (Or.inl ⟨5, dX7_init_125, by decide, rfl⟩ : yPush cX7_init 125 5 1) ?_
  refine z_push (pc := 126) B9 (Or.inl ⟨1, dX7_init_126, by decide, rfl⟩ : yPush cX7_init 126 1 1) ?_
  refine z_iast (pc := 127) (o := 3) (n := 6) (j9 := 5) B9 dX7_init_127 shM_3 (by decide) (by decide) ?_
  refine z_al (pc := 128) B9 dX7_init_128 ?_
  refine z_getR (pc := 129) (o := 0) (k9 := 11) B9 dX7_init_129 shM_0 rfl cb_X7 ⟨by decide, rfl, gw_810⟩ ?_
  refine z_push (pc := 132) B9 (Or.inl ⟨2, dX7_init_132, by decide, rfl⟩ : yPush cX7_init 132 2 1) ?_
  refine z_push (pc := 133) B9 (Or.inl ⟨1, dX7_init_133, by decide, rfl⟩ : yPush cX7_init 133 1 1) ?_
  refine z_iast (pc := 134) (o := 4) (n := 27) (j9 := 2) B9 dX7_init_134 shM_4 (by decide) (by decide) ?_
  refine z_al (pc := 135) B9 dX7_init_135 ?_
  refine z_call (pc := 136) (As := []) (st := []) (tf := tfM) (K := KM) B9 KSM trivial B9.2.2.2.2.2.2.2.1 (F7_drafts_ck l qM7 h1) mi_X7_drafts gw_787 rfl ⟨gw_789, gw_30⟩ shM_0 rfl rfl ⟨Nat.le_of_ble_eq_true rfl, Nat.le_of_ble_eq_true rfl⟩ (Nat.le_of_ble_eq_true rfl) ⟨Nat.le_of_ble_eq_true rfl, Nat.le_of_ble_eq_true rfl⟩ dX7_init_136 ?_
  refine z_al (pc := 139) B9 dX7_init_139 ?_
  refine z_call (pc := 140) (As := []) (st := []) (tf := tfM) (K := KM) B9 KSM trivial B9.2.2.2.2.2.2.2.1 (F7_adopts_ck l q1 h2) mi_X7_adopts gw_791 rfl ⟨gw_793, gw_31⟩ shM_0 rfl rfl ⟨Nat.le_of_ble_eq_true rfl, Nat.le_of_ble_eq_true rfl⟩ (Nat.le_of_ble_eq_true rfl) ⟨Nat.le_of_ble_eq_true rfl, Nat.le_of_ble_eq_true rfl⟩ dX7_init_140 ?_
  exact z_ret (pc := 143) B dX7_init_143 adq
