/-! THE LAW: two worlds side by side (rows printed by law.py) -/
def lB (p : Program) (s : State) (md : MethodId) (meth : Method) (c : Code) (D : va_G) (cI cZ : ClassId) (b L : Nat) (xs : Nat → Int32) (adX : Nat → Nat) : Prop :=
  p.tables.exec = Jvm.exec ∧ c.code = code ∧ meth.sig.returnType = .some .boolean ∧ meth.locks = false ∧ c.maxLocals = 4 ∧ s.vm.findClass RL = some md.cls ∧ (∀ w ∈ GG, w.before #[Value.ref b] s = true) ∧ va_K D vwCl (tfM cI cZ) s ∧ va_X b L xs s s.heap ∧ b < s.heap.size ∧ KX adX (fun q => s.heap.size ≤ q) s s.heap ∧ L ≤ 2048
def lW (p : Program) (l : Launch) (e : Env) (s : State) (md : MethodId) (b : Nat) (below : List Frame) (meth : Method) (c : Code) (D : va_G) (cI cZ : ClassId) (adX adM : Nat → Nat) (lsC : Array Slot) (Q : State → Prop) (pc : Nat) : Prop :=
  ∀ (H : Heap) (locs : List Loc) (x m : SQ), RR x m → va_P D vwCl (sx_cw shX cI cZ adX x ++ sx_cw shM cI cZ adM m) H → va_D (fun q => s.heap.size ≤ q) (sx_cw shX cI cZ adX x ++ sx_cw shM cI cZ adM m) → va_S (fun q => s.heap.size ≤ q) s.heap H locs → W p l e room_1 s md #[Value.ref b] below meth c H locs 63 2349 Q (F0 md pc lsC [])
def lL (lsC : Array Slot) (b i : Nat) (adX adM : Nat → Nat) : Prop := lv_has lsC 4 [(0, .ref b), (1, .ref (adX 0)), (2, .ref (adM 0)), (3, .int (nI i))]
theorem la_swP {D : va_G} {cl : List vw_C} {a b : va_W} {H : Heap} (h : va_P D cl (a ++ b) H) : va_P D cl (b ++ a) H := va_P.swap (a := []) h
theorem la_swD {A : Nat → Prop} {a b : va_W} (h : va_D A (a ++ b)) : va_D A (b ++ a) := va_D.swap (a := []) h
section LAWR
variable {p : Program} {l : Launch} {e : Env} {s : State} {md : MethodId} {below : List Frame} {meth : Method} {c : Code} {D : va_G} {cI cZ : ClassId} {b L i : Nat} {xs : Nat → Int32} {adX adM : Nat → Nat} {lsC : Array Slot} {Q : State → Prop} {H : Heap} {locs : List Loc} {x m : SQ} {pc : Nat} {st rest st0 : List Value}
theorem la_arg {n : Int} {k : Nat} (B : lB p s md meth c D cI cZ b L xs adX) (hl : lL lsC b i adX adM) (hi : i + k < L) (hS : va_S (fun q => s.heap.size ≤ q) s.heap H locs) (d0 : decode code pc = .ok (.aload_n 0, 1)) (d1 : decode code (pc + 1) = .ok (.iload_n 3, 1)) (d2 : decode code (pc + 2) = .ok (.iconst n, 1)) (hv : Int32.ofInt n = nI k) (d3 : decode code (pc + 3) = .ok (.iadd, 1)) (d4 : decode code (pc + 4) = .ok (.iaload, 1)) (kk : W p l e room_1 s md #[Value.ref b] below meth c H locs 63 2349 Q (F0 md (pc + 5) lsC (.int (xs (i + k)) :: st))) : W p l e room_1 s md #[Value.ref b] below meth c H locs 63 2349 Q (F0 md pc lsC st) := by
  obtain ⟨hx, hb, hr, hlk, hml, hown, hts, hK, hX, hbl, hKx, hL⟩ := B
  refine lv_aload_n hx hb d0 rfl (lv_at hl 0 rfl) ?_
  refine lv_iload_n hx hb d1 rfl (lv_at hl 3 rfl) ?_
  refine lv_iconst (v := nI k) hx hb d2 hv ?_
  refine lv_iadd hx hb d3 ?_
  rw [nI_add]
  refine va_sld hx hb hX hbl (Nat.not_le.mpr hbl) hS (vp_in_nI hi (by omega)) d4 ?_
  rw [nI_clamp (by omega)]
  exact kk
theorem la_cx {y : MethodName} {cc9 : ByteArray} {nL9 n f9 L9 j : Nat} {ret9 : Option FieldType} {As : List Value} {res : Option Value} {q2 : SQ} (B : lB p s md meth c D cI cZ b L xs adX) (hl : lL lsC b i adX adM) (hc : CK shX vwCl KX tfX l y cc9 nL9 ret9 f9 L9 (.ref 0 :: As) x res q2) (mi : sx_MI y cc9 nL9 ret9 n) (hln : Cond.methodLink RL j y ∈ GG) (hn : As.length = n) (hin : Cond.instanceMethod y ∈ GG ∧ Cond.selects y.cls y y ∈ GG) (hvc : RX6 = y.cls) (hR : f9 + 1 ≤ 12 ∧ 8 + (nL9 + 11) + L9 ≤ 434) (hcat : (rest.map fun v => v.category).sum ≤ 8) (d : decode code pc = .ok (.invokevirtual j, 3)) (hP : va_P D vwCl (sx_cw shX cI cZ adX x ++ sx_cw shM cI cZ adM m) H) (hD : va_D (fun q => s.heap.size ≤ q) (sx_cw shX cI cZ adX x ++ sx_cw shM cI cZ adM m)) (hS : va_S (fun q => s.heap.size ≤ q) s.heap H locs) (hst : st0 = (As.map (sx_cz adX)).reverse ++ .ref (adX 0) :: rest)
    (kk : ∀ (H1 : Heap) (locs1 : List Loc), va_P D vwCl (sx_cw shX cI cZ adX q2 ++ sx_cw shM cI cZ adM m) H1 → va_D (fun q => s.heap.size ≤ q) (sx_cw shX cI cZ adX q2 ++ sx_cw shM cI cZ adM m) → va_S (fun q => s.heap.size ≤ q) s.heap H1 locs1 → W p l e room_1 s md #[Value.ref b] below meth c H1 locs1 63 2349 Q (F0 md (pc + 3) lsC ((res.map (sx_cz adX)).toList ++ rest))) : W p l e room_1 s md #[Value.ref b] below meth c H locs 63 2349 Q (F0 md pc lsC st0) := by
  obtain ⟨hx, hb, hr, hlk, hml, hown, hts, hK, hX, hbl, hKx, hL⟩ := B
  exact z_callV (o := 0) (ci := 6) (wr := sx_cw shM cI cZ adM m) (sh := shX) (ad := adX) (q := x) (tf := tfX) (K := KX) KSX hc mi hln hn hin shX_0 rfl hvc hR hcat ⟨Nat.le_of_ble_eq_true rfl, Nat.le_of_ble_eq_true rfl⟩ d hx hb hml hown hts hl.1 hKx (hK.sub [0] rfl) (la_swP hP) (la_swD hD) hS (fun a h => h) hst (fun H1 locs1 hP1 hD1 hS1 => kk H1 locs1 (la_swP hP1) (la_swD hD1) hS1)
theorem la_cm {y : MethodName} {cc9 : ByteArray} {nL9 n f9 L9 j : Nat} {ret9 : Option FieldType} {As : List Value} {res : Option Value} {q2 : SQ} (B : lB p s md meth c D cI cZ b L xs adX) (hl : lL lsC b i adX adM) (hc : CK shM vwCl KM tfM l y cc9 nL9 ret9 f9 L9 (.ref 0 :: As) m res q2) (mi : sx_MI y cc9 nL9 ret9 n) (hln : Cond.methodLink RL j y ∈ GG) (hn : As.length = n) (hin : Cond.instanceMethod y ∈ GG ∧ Cond.selects y.cls y y ∈ GG) (hvc : RX7 = y.cls) (hR : f9 + 1 ≤ 12 ∧ 8 + (nL9 + 11) + L9 ≤ 434) (hcat : (rest.map fun v => v.category).sum ≤ 8) (d : decode code pc = .ok (.invokevirtual j, 3)) (hP : va_P D vwCl (sx_cw shX cI cZ adX x ++ sx_cw shM cI cZ adM m) H) (hD : va_D (fun q => s.heap.size ≤ q) (sx_cw shX cI cZ adX x ++ sx_cw shM cI cZ adM m)) (hS : va_S (fun q => s.heap.size ≤ q) s.heap H locs) (hst : st0 = (As.map (sx_cz adM)).reverse ++ .ref (adM 0) :: rest)
    (kk : ∀ (H1 : Heap) (locs1 : List Loc), va_P D vwCl (sx_cw shX cI cZ adX x ++ sx_cw shM cI cZ adM q2) H1 → va_D (fun q => s.heap.size ≤ q) (sx_cw shX cI cZ adX x ++ sx_cw shM cI cZ adM q2) → va_S (fun q => s.heap.size ≤ q) s.heap H1 locs1 → W p l e room_1 s md #[Value.ref b] below meth c H1 locs1 63 2349 Q (F0 md (pc + 3) lsC ((res.map (sx_cz adM)).toList ++ rest))) : W p l e room_1 s md #[Value.ref b] below meth c H locs 63 2349 Q (F0 md pc lsC st0) := by
  obtain ⟨hx, hb, hr, hlk, hml, hown, hts, hK, hX, hbl, hKx, hL⟩ := B
  exact z_callV (o := 0) (ci := 7) (wr := sx_cw shX cI cZ adX x) (sh := shM) (ad := adM) (q := m) (tf := tfM) (K := KM) KSM hc mi hln hn hin shM_0 rfl hvc hR hcat ⟨Nat.le_of_ble_eq_true rfl, Nat.le_of_ble_eq_true rfl⟩ d hx hb hml hown hts hl.1 trivial hK hP hD hS (fun a h => h) hst kk
theorem la_type (B : lB p s md meth c D cI cZ b L xs adX) (hl : lL lsC b i adX adM) (hi : i + 4 ≤ L) (k : lW p l e s md b below meth c D cI cZ adX adM lsC Q 1127) : lW p l e s md b below meth c D cI cZ adX adM lsC Q 184 := by
  have B2 := B
  obtain ⟨hx, hb, hr, hlk, hml, hown, hts, hK, hX, hbl, hKx, hL⟩ := B2
  intro H locs x m hR hP hD hS
  obtain ⟨r, y, n, eX, eM, hR2⟩ := type_bo hR ((((xs (i + 1)).toInt64 <<< ((32 : Int32).toInt64 &&& 63)) ||| ((xs (i + 2)).toInt64 &&& 4294967295))) (xs (i + 3))
  refine lv_aload_n hx hb dL_law_184 rfl (lv_at hl 1 rfl) ?_
  refine la_arg (pc := 185) (k := 1) B hl (by omega) hS dL_law_185 dL_law_186 dL_law_187 (by decide) dL_law_188 dL_law_189 ?_
  refine lv_i2l (pc := 190) hx hb dL_law_190 rfl ?_
  refine lv_bipush (pc := 191) (v := 32) hx hb dL_law_191 (by decide) ?_
  refine lv_lshl (pc := 193) hx hb dL_law_193 rfl ?_
  refine la_arg (pc := 194) (k := 2) B hl (by omega) hS dL_law_194 dL_law_195 dL_law_196 (by decide) dL_law_197 dL_law_198 ?_
  refine lv_i2l (pc := 199) hx hb dL_law_199 rfl ?_
  refine lv_ldc2 (pc := 200) hx hb hown (hts _ gw_1131) dL_law_200 ?_
  refine lv_land (pc := 203) hx hb dL_law_203 ?_
  refine lv_lor (pc := 204) hx hb dL_law_204 ?_
  refine la_arg (pc := 205) (k := 3) B hl (by omega) hS dL_law_205 dL_law_206 dL_law_207 (by decide) dL_law_208 dL_law_209 ?_
  refine la_cx (pc := 210) (rest := []) (As := [.long (((xs (i + 1)).toInt64 <<< ((32 : Int32).toInt64 &&& 63)) ||| ((xs (i + 2)).toInt64 &&& 4294967295)), .int (xs (i + 3))]) B hl (F6_type_ck l (((xs (i + 1)).toInt64 <<< ((32 : Int32).toInt64 &&& 63)) ||| ((xs (i + 2)).toInt64 &&& 4294967295)) (xs (i + 3)) x eX) mi_X6_type gw_329 rfl ⟨gw_330, gw_331⟩ rfl ⟨Nat.le_of_ble_eq_true rfl, Nat.le_of_ble_eq_true rfl⟩ (Nat.le_of_ble_eq_true rfl) dL_law_210 hP hD hS rfl (fun H locs hP hD hS => ?_)
  refine lv_aload_n hx hb dL_law_213 rfl (lv_at hl 2 rfl) ?_
  refine la_arg (pc := 214) (k := 1) B hl (by omega) hS dL_law_214 dL_law_215 dL_law_216 (by decide) dL_law_217 dL_law_218 ?_
  refine lv_i2l (pc := 219) hx hb dL_law_219 rfl ?_
  refine lv_bipush (pc := 220) (v := 32) hx hb dL_law_220 (by decide) ?_
  refine lv_lshl (pc := 222) hx hb dL_law_222 rfl ?_
  refine la_arg (pc := 223) (k := 2) B hl (by omega) hS dL_law_223 dL_law_224 dL_law_225 (by decide) dL_law_226 dL_law_227 ?_
  refine lv_i2l (pc := 228) hx hb dL_law_228 rfl ?_
  refine lv_ldc2 (pc := 229) hx hb hown (hts _ gw_1131) dL_law_229 ?_
  refine lv_land (pc := 232) hx hb dL_law_232 ?_
  refine lv_lor (pc := 233) hx hb dL_law_233 ?_
  refine la_arg (pc := 234) (k := 3) B hl (by omega) hS dL_law_234 dL_law_235 dL_law_236 (by decide) dL_law_237 dL_law_238 ?_
  refine la_cm (pc := 239) (rest := [.int r]) (As := [.long (((xs (i + 1)).toInt64 <<< ((32 : Int32).toInt64 &&& 63)) ||| ((xs (i + 2)).toInt64 &&& 4294967295)), .int (xs (i + 3))]) B hl (F7_type_ck l (((xs (i + 1)).toInt64 <<< ((32 : Int32).toInt64 &&& 63)) ||| ((xs (i + 2)).toInt64 &&& 4294967295)) (xs (i + 3)) m eM) mi_X7_type gw_861 rfl ⟨gw_862, gw_863⟩ rfl ⟨Nat.le_of_ble_eq_true rfl, Nat.le_of_ble_eq_true rfl⟩ (Nat.le_of_ble_eq_true rfl) dL_law_239 hP hD hS rfl (fun H locs hP hD hS => ?_)
  exact lv_icmp_eq (pc := 242) (tgt := 1127) hx hb dL_law_242 (by decide) (fun _ => k H locs _ _ hR2 hP hD hS) (fun z => absurd rfl z)
theorem la_clear (B : lB p s md meth c D cI cZ b L xs adX) (hl : lL lsC b i adX adM) (hi : i + 4 ≤ L) (k : lW p l e s md b below meth c D cI cZ adX adM lsC Q 1127) : lW p l e s md b below meth c D cI cZ adX adM lsC Q 247 := by
  have B2 := B
  obtain ⟨hx, hb, hr, hlk, hml, hown, hts, hK, hX, hbl, hKx, hL⟩ := B2
  intro H locs x m hR hP hD hS
  obtain ⟨r, y, n, eX, eM, hR2⟩ := clear_bo hR 
  refine lv_aload_n hx hb dL_law_247 rfl (lv_at hl 1 rfl) ?_
  refine la_cx (pc := 248) (rest := []) (As := []) B hl (F6_clear_ck l  x eX) mi_X6_clear gw_340 rfl ⟨gw_341, gw_342⟩ rfl ⟨Nat.le_of_ble_eq_true rfl, Nat.le_of_ble_eq_true rfl⟩ (Nat.le_of_ble_eq_true rfl) dL_law_248 hP hD hS rfl (fun H locs hP hD hS => ?_)
  refine lv_aload_n hx hb dL_law_251 rfl (lv_at hl 2 rfl) ?_
  refine la_cm (pc := 252) (rest := [.int r]) (As := []) B hl (F7_clear_ck l  m eM) mi_X7_clear gw_869 rfl ⟨gw_870, gw_871⟩ rfl ⟨Nat.le_of_ble_eq_true rfl, Nat.le_of_ble_eq_true rfl⟩ (Nat.le_of_ble_eq_true rfl) dL_law_252 hP hD hS rfl (fun H locs hP hD hS => ?_)
  exact lv_icmp_eq (pc := 255) (tgt := 1127) hx hb dL_law_255 (by decide) (fun _ => k H locs _ _ hR2 hP hD hS) (fun z => absurd rfl z)
theorem la_chart (B : lB p s md meth c D cI cZ b L xs adX) (hl : lL lsC b i adX adM) (hi : i + 4 ≤ L) (k : lW p l e s md b below meth c D cI cZ adX adM lsC Q 1127) : lW p l e s md b below meth c D cI cZ adX adM lsC Q 260 := by
  have B2 := B
  obtain ⟨hx, hb, hr, hlk, hml, hown, hts, hK, hX, hbl, hKx, hL⟩ := B2
  intro H locs x m hR hP hD hS
  obtain ⟨r, y, n, eX, eM, hR2⟩ := chart_bo hR 
  refine lv_aload_n hx hb dL_law_260 rfl (lv_at hl 1 rfl) ?_
  refine la_cx (pc := 261) (rest := []) (As := []) B hl (F6_chart_ck l  x eX) mi_X6_chart gw_344 rfl ⟨gw_345, gw_346⟩ rfl ⟨Nat.le_of_ble_eq_true rfl, Nat.le_of_ble_eq_true rfl⟩ (Nat.le_of_ble_eq_true rfl) dL_law_261 hP hD hS rfl (fun H locs hP hD hS => ?_)
  refine lv_aload_n hx hb dL_law_264 rfl (lv_at hl 2 rfl) ?_
  refine la_cm (pc := 265) (rest := [.int r]) (As := []) B hl (F7_chart_ck l  m eM) mi_X7_chart gw_873 rfl ⟨gw_874, gw_875⟩ rfl ⟨Nat.le_of_ble_eq_true rfl, Nat.le_of_ble_eq_true rfl⟩ (Nat.le_of_ble_eq_true rfl) dL_law_265 hP hD hS rfl (fun H locs hP hD hS => ?_)
  exact lv_icmp_eq (pc := 268) (tgt := 1127) hx hb dL_law_268 (by decide) (fun _ => k H locs _ _ hR2 hP hD hS) (fun z => absurd rfl z)
theorem la_child (B : lB p s md meth c D cI cZ b L xs adX) (hl : lL lsC b i adX adM) (hi : i + 4 ≤ L) (k : lW p l e s md b below meth c D cI cZ adX adM lsC Q 1127) : lW p l e s md b below meth c D cI cZ adX adM lsC Q 273 := by
  have B2 := B
  obtain ⟨hx, hb, hr, hlk, hml, hown, hts, hK, hX, hbl, hKx, hL⟩ := B2
  intro H locs x m hR hP hD hS
  obtain ⟨r, y, n, eX, eM, hR2⟩ := child_bo hR (xs (i + 1)) (xs (i + 2))
  refine lv_aload_n hx hb dL_law_273 rfl (lv_at hl 1 rfl) ?_
  refine la_arg (pc := 274) (k := 1) B hl (by omega) hS dL_law_274 dL_law_275 dL_law_276 (by decide) dL_law_277 dL_law_278 ?_
  refine la_arg (pc := 279) (k := 2) B hl (by omega) hS dL_law_279 dL_law_280 dL_law_281 (by decide) dL_law_282 dL_law_283 ?_
  refine la_cx (pc := 284) (rest := []) (As := [.int (xs (i + 1)), .int (xs (i + 2))]) B hl (F6_child_ck l (xs (i + 1)) (xs (i + 2)) x eX) mi_X6_child gw_485 rfl ⟨gw_486, gw_487⟩ rfl ⟨Nat.le_of_ble_eq_true rfl, Nat.le_of_ble_eq_true rfl⟩ (Nat.le_of_ble_eq_true rfl) dL_law_284 hP hD hS rfl (fun H locs hP hD hS => ?_)
  refine lv_aload_n hx hb dL_law_287 rfl (lv_at hl 2 rfl) ?_
  refine la_arg (pc := 288) (k := 1) B hl (by omega) hS dL_law_288 dL_law_289 dL_law_290 (by decide) dL_law_291 dL_law_292 ?_
  refine la_arg (pc := 293) (k := 2) B hl (by omega) hS dL_law_293 dL_law_294 dL_law_295 (by decide) dL_law_296 dL_law_297 ?_
  refine la_cm (pc := 298) (rest := [.int r]) (As := [.int (xs (i + 1)), .int (xs (i + 2))]) B hl (F7_child_ck l (xs (i + 1)) (xs (i + 2)) m eM) mi_X7_child gw_915 rfl ⟨gw_916, gw_917⟩ rfl ⟨Nat.le_of_ble_eq_true rfl, Nat.le_of_ble_eq_true rfl⟩ (Nat.le_of_ble_eq_true rfl) dL_law_298 hP hD hS rfl (fun H locs hP hD hS => ?_)
  exact lv_icmp_eq (pc := 301) (tgt := 1127) hx hb dL_law_301 (by decide) (fun _ => k H locs _ _ hR2 hP hD hS) (fun z => absurd rfl z)
theorem la_book (B : lB p s md meth c D cI cZ b L xs adX) (hl : lL lsC b i adX adM) (hi : i + 4 ≤ L) (k : lW p l e s md b below meth c D cI cZ adX adM lsC Q 1127) : lW p l e s md b below meth c D cI cZ adX adM lsC Q 306 := by
  have B2 := B
  obtain ⟨hx, hb, hr, hlk, hml, hown, hts, hK, hX, hbl, hKx, hL⟩ := B2
  intro H locs x m hR hP hD hS
  obtain ⟨r, y, n, eX, eM, hR2⟩ := book_bo hR (xs (i + 1)) (xs (i + 2))
  refine lv_aload_n hx hb dL_law_306 rfl (lv_at hl 1 rfl) ?_
  refine la_arg (pc := 307) (k := 1) B hl (by omega) hS dL_law_307 dL_law_308 dL_law_309 (by decide) dL_law_310 dL_law_311 ?_
  refine la_arg (pc := 312) (k := 2) B hl (by omega) hS dL_law_312 dL_law_313 dL_law_314 (by decide) dL_law_315 dL_law_316 ?_
  refine la_cx (pc := 317) (rest := []) (As := [.int (xs (i + 1)), .int (xs (i + 2))]) B hl (F6_book_ck l (xs (i + 1)) (xs (i + 2)) x eX) mi_X6_book gw_493 rfl ⟨gw_494, gw_495⟩ rfl ⟨Nat.le_of_ble_eq_true rfl, Nat.le_of_ble_eq_true rfl⟩ (Nat.le_of_ble_eq_true rfl) dL_law_317 hP hD hS rfl (fun H locs hP hD hS => ?_)
  refine lv_aload_n hx hb dL_law_320 rfl (lv_at hl 2 rfl) ?_
  refine la_arg (pc := 321) (k := 1) B hl (by omega) hS dL_law_321 dL_law_322 dL_law_323 (by decide) dL_law_324 dL_law_325 ?_
  refine la_arg (pc := 326) (k := 2) B hl (by omega) hS dL_law_326 dL_law_327 dL_law_328 (by decide) dL_law_329 dL_law_330 ?_
  refine la_cm (pc := 331) (rest := [.int r]) (As := [.int (xs (i + 1)), .int (xs (i + 2))]) B hl (F7_book_ck l (xs (i + 1)) (xs (i + 2)) m eM) mi_X7_book gw_923 rfl ⟨gw_924, gw_925⟩ rfl ⟨Nat.le_of_ble_eq_true rfl, Nat.le_of_ble_eq_true rfl⟩ (Nat.le_of_ble_eq_true rfl) dL_law_331 hP hD hS rfl (fun H locs hP hD hS => ?_)
  exact lv_icmp_eq (pc := 334) (tgt := 1127) hx hb dL_law_334 (by decide) (fun _ => k H locs _ _ hR2 hP hD hS) (fun z => absurd rfl z)
theorem la_plan (B : lB p s md meth c D cI cZ b L xs adX) (hl : lL lsC b i adX adM) (hi : i + 4 ≤ L) (k : lW p l e s md b below meth c D cI cZ adX adM lsC Q 1127) : lW p l e s md b below meth c D cI cZ adX adM lsC Q 339 := by
  have B2 := B
  obtain ⟨hx, hb, hr, hlk, hml, hown, hts, hK, hX, hbl, hKx, hL⟩ := B2
  intro H locs x m hR hP hD hS
  obtain ⟨r, y, n, eX, eM, hR2⟩ := plan_bo hR (xs (i + 1))
  refine lv_aload_n hx hb dL_law_339 rfl (lv_at hl 1 rfl) ?_
  refine la_arg (pc := 340) (k := 1) B hl (by omega) hS dL_law_340 dL_law_341 dL_law_342 (by decide) dL_law_343 dL_law_344 ?_
  refine la_cx (pc := 345) (rest := []) (As := [.int (xs (i + 1))]) B hl (F6_plan_ck l (xs (i + 1)) x eX) mi_X6_plan gw_501 rfl ⟨gw_502, gw_503⟩ rfl ⟨Nat.le_of_ble_eq_true rfl, Nat.le_of_ble_eq_true rfl⟩ (Nat.le_of_ble_eq_true rfl) dL_law_345 hP hD hS rfl (fun H locs hP hD hS => ?_)
  refine lv_aload_n hx hb dL_law_348 rfl (lv_at hl 2 rfl) ?_
  refine la_arg (pc := 349) (k := 1) B hl (by omega) hS dL_law_349 dL_law_350 dL_law_351 (by decide) dL_law_352 dL_law_353 ?_
  refine la_cm (pc := 354) (rest := [.int r]) (As := [.int (xs (i + 1))]) B hl (F7_plan_ck l (xs (i + 1)) m eM) mi_X7_plan gw_931 rfl ⟨gw_932, gw_933⟩ rfl ⟨Nat.le_of_ble_eq_true rfl, Nat.le_of_ble_eq_true rfl⟩ (Nat.le_of_ble_eq_true rfl) dL_law_354 hP hD hS rfl (fun H locs hP hD hS => ?_)
  exact lv_icmp_eq (pc := 357) (tgt := 1127) hx hb dL_law_357 (by decide) (fun _ => k H locs _ _ hR2 hP hD hS) (fun z => absurd rfl z)
theorem la_tune (B : lB p s md meth c D cI cZ b L xs adX) (hl : lL lsC b i adX adM) (hi : i + 4 ≤ L) (k : lW p l e s md b below meth c D cI cZ adX adM lsC Q 1127) : lW p l e s md b below meth c D cI cZ adX adM lsC Q 362 := by
  have B2 := B
  obtain ⟨hx, hb, hr, hlk, hml, hown, hts, hK, hX, hbl, hKx, hL⟩ := B2
  intro H locs x m hR hP hD hS
  obtain ⟨r, y, n, eX, eM, hR2⟩ := tune_bo hR (xs (i + 1)) (xs (i + 2))
  refine lv_aload_n hx hb dL_law_362 rfl (lv_at hl 1 rfl) ?_
  refine la_arg (pc := 363) (k := 1) B hl (by omega) hS dL_law_363 dL_law_364 dL_law_365 (by decide) dL_law_366 dL_law_367 ?_
  refine la_arg (pc := 368) (k := 2) B hl (by omega) hS dL_law_368 dL_law_369 dL_law_370 (by decide) dL_law_371 dL_law_372 ?_
  refine la_cx (pc := 373) (rest := []) (As := [.int (xs (i + 1)), .int (xs (i + 2))]) B hl (F6_tune_ck l (xs (i + 1)) (xs (i + 2)) x eX) mi_X6_tune gw_505 rfl ⟨gw_506, gw_507⟩ rfl ⟨Nat.le_of_ble_eq_true rfl, Nat.le_of_ble_eq_true rfl⟩ (Nat.le_of_ble_eq_true rfl) dL_law_373 hP hD hS rfl (fun H locs hP hD hS => ?_)
  refine lv_aload_n hx hb dL_law_376 rfl (lv_at hl 2 rfl) ?_
  refine la_arg (pc := 377) (k := 1) B hl (by omega) hS dL_law_377 dL_law_378 dL_law_379 (by decide) dL_law_380 dL_law_381 ?_
  refine la_arg (pc := 382) (k := 2) B hl (by omega) hS dL_law_382 dL_law_383 dL_law_384 (by decide) dL_law_385 dL_law_386 ?_
  refine la_cm (pc := 387) (rest := [.int r]) (As := [.int (xs (i + 1)), .int (xs (i + 2))]) B hl (F7_tune_ck l (xs (i + 1)) (xs (i + 2)) m eM) mi_X7_tune gw_935 rfl ⟨gw_936, gw_937⟩ rfl ⟨Nat.le_of_ble_eq_true rfl, Nat.le_of_ble_eq_true rfl⟩ (Nat.le_of_ble_eq_true rfl) dL_law_387 hP hD hS rfl (fun H locs hP hD hS => ?_)
  exact lv_icmp_eq (pc := 390) (tgt := 1127) hx hb dL_law_390 (by decide) (fun _ => k H locs _ _ hR2 hP hD hS) (fun z => absurd rfl z)
theorem la_given (B : lB p s md meth c D cI cZ b L xs adX) (hl : lL lsC b i adX adM) (hi : i + 4 ≤ L) (k : lW p l e s md b below meth c D cI cZ adX adM lsC Q 1127) : lW p l e s md b below meth c D cI cZ adX adM lsC Q 395 := by
  have B2 := B
  obtain ⟨hx, hb, hr, hlk, hml, hown, hts, hK, hX, hbl, hKx, hL⟩ := B2
  intro H locs x m hR hP hD hS
  obtain ⟨r, y, n, eX, eM, hR2⟩ := given_bo hR (xs (i + 1)) (xs (i + 2))
  refine lv_aload_n hx hb dL_law_395 rfl (lv_at hl 1 rfl) ?_
  refine la_arg (pc := 396) (k := 1) B hl (by omega) hS dL_law_396 dL_law_397 dL_law_398 (by decide) dL_law_399 dL_law_400 ?_
  refine la_arg (pc := 401) (k := 2) B hl (by omega) hS dL_law_401 dL_law_402 dL_law_403 (by decide) dL_law_404 dL_law_405 ?_
  refine la_cx (pc := 406) (rest := []) (As := [.int (xs (i + 1)), .int (xs (i + 2))]) B hl (F6_given_ck l (xs (i + 1)) (xs (i + 2)) x eX) mi_X6_given gw_511 rfl ⟨gw_512, gw_513⟩ rfl ⟨Nat.le_of_ble_eq_true rfl, Nat.le_of_ble_eq_true rfl⟩ (Nat.le_of_ble_eq_true rfl) dL_law_406 hP hD hS rfl (fun H locs hP hD hS => ?_)
  refine lv_aload_n hx hb dL_law_409 rfl (lv_at hl 2 rfl) ?_
  refine la_arg (pc := 410) (k := 1) B hl (by omega) hS dL_law_410 dL_law_411 dL_law_412 (by decide) dL_law_413 dL_law_414 ?_
  refine la_arg (pc := 415) (k := 2) B hl (by omega) hS dL_law_415 dL_law_416 dL_law_417 (by decide) dL_law_418 dL_law_419 ?_
  refine la_cm (pc := 420) (rest := [.int r]) (As := [.int (xs (i + 1)), .int (xs (i + 2))]) B hl (F7_given_ck l (xs (i + 1)) (xs (i + 2)) m eM) mi_X7_given gw_939 rfl ⟨gw_940, gw_941⟩ rfl ⟨Nat.le_of_ble_eq_true rfl, Nat.le_of_ble_eq_true rfl⟩ (Nat.le_of_ble_eq_true rfl) dL_law_420 hP hD hS rfl (fun H locs hP hD hS => ?_)
  exact lv_icmp_eq (pc := 423) (tgt := 1127) hx hb dL_law_423 (by decide) (fun _ => k H locs _ _ hR2 hP hD hS) (fun z => absurd rfl z)
theorem la_want (B : lB p s md meth c D cI cZ b L xs adX) (hl : lL lsC b i adX adM) (hi : i + 4 ≤ L) (k : lW p l e s md b below meth c D cI cZ adX adM lsC Q 1127) : lW p l e s md b below meth c D cI cZ adX adM lsC Q 428 := by
  have B2 := B
  obtain ⟨hx, hb, hr, hlk, hml, hown, hts, hK, hX, hbl, hKx, hL⟩ := B2
  intro H locs x m hR hP hD hS
  obtain ⟨r, y, n, eX, eM, hR2⟩ := want_bo hR (xs (i + 1)) (xs (i + 2)) (xs (i + 3))
  refine lv_aload_n hx hb dL_law_428 rfl (lv_at hl 1 rfl) ?_
  refine la_arg (pc := 429) (k := 1) B hl (by omega) hS dL_law_429 dL_law_430 dL_law_431 (by decide) dL_law_432 dL_law_433 ?_
  refine la_arg (pc := 434) (k := 2) B hl (by omega) hS dL_law_434 dL_law_435 dL_law_436 (by decide) dL_law_437 dL_law_438 ?_
  refine la_arg (pc := 439) (k := 3) B hl (by omega) hS dL_law_439 dL_law_440 dL_law_441 (by decide) dL_law_442 dL_law_443 ?_
  refine la_cx (pc := 444) (rest := []) (As := [.int (xs (i + 1)), .int (xs (i + 2)), .int (xs (i + 3))]) B hl (F6_want_ck l (xs (i + 1)) (xs (i + 2)) (xs (i + 3)) x eX) mi_X6_want gw_522 rfl ⟨gw_523, gw_524⟩ rfl ⟨Nat.le_of_ble_eq_true rfl, Nat.le_of_ble_eq_true rfl⟩ (Nat.le_of_ble_eq_true rfl) dL_law_444 hP hD hS rfl (fun H locs hP hD hS => ?_)
  refine lv_aload_n hx hb dL_law_447 rfl (lv_at hl 2 rfl) ?_
  refine la_arg (pc := 448) (k := 1) B hl (by omega) hS dL_law_448 dL_law_449 dL_law_450 (by decide) dL_law_451 dL_law_452 ?_
  refine la_arg (pc := 453) (k := 2) B hl (by omega) hS dL_law_453 dL_law_454 dL_law_455 (by decide) dL_law_456 dL_law_457 ?_
  refine la_arg (pc := 458) (k := 3) B hl (by omega) hS dL_law_458 dL_law_459 dL_law_460 (by decide) dL_law_461 dL_law_462 ?_
  refine la_cm (pc := 463) (rest := [.int r]) (As := [.int (xs (i + 1)), .int (xs (i + 2)), .int (xs (i + 3))]) B hl (F7_want_ck l (xs (i + 1)) (xs (i + 2)) (xs (i + 3)) m eM) mi_X7_want gw_950 rfl ⟨gw_951, gw_952⟩ rfl ⟨Nat.le_of_ble_eq_true rfl, Nat.le_of_ble_eq_true rfl⟩ (Nat.le_of_ble_eq_true rfl) dL_law_463 hP hD hS rfl (fun H locs hP hD hS => ?_)
  exact lv_icmp_eq (pc := 466) (tgt := 1127) hx hb dL_law_466 (by decide) (fun _ => k H locs _ _ hR2 hP hD hS) (fun z => absurd rfl z)
theorem la_choice (B : lB p s md meth c D cI cZ b L xs adX) (hl : lL lsC b i adX adM) (hi : i + 4 ≤ L) (k : lW p l e s md b below meth c D cI cZ adX adM lsC Q 1127) : lW p l e s md b below meth c D cI cZ adX adM lsC Q 471 := by
  have B2 := B
  obtain ⟨hx, hb, hr, hlk, hml, hown, hts, hK, hX, hbl, hKx, hL⟩ := B2
  intro H locs x m hR hP hD hS
  obtain ⟨r, y, n, eX, eM, hR2⟩ := choice_bo hR (xs (i + 1))
  refine lv_aload_n hx hb dL_law_471 rfl (lv_at hl 1 rfl) ?_
  refine la_arg (pc := 472) (k := 1) B hl (by omega) hS dL_law_472 dL_law_473 dL_law_474 (by decide) dL_law_475 dL_law_476 ?_
  refine la_cx (pc := 477) (rest := []) (As := [.int (xs (i + 1))]) B hl (F6_choice_ck l (xs (i + 1)) x eX) mi_X6_choice gw_546 rfl ⟨gw_547, gw_548⟩ rfl ⟨Nat.le_of_ble_eq_true rfl, Nat.le_of_ble_eq_true rfl⟩ (Nat.le_of_ble_eq_true rfl) dL_law_477 hP hD hS rfl (fun H locs hP hD hS => ?_)
  refine lv_aload_n hx hb dL_law_480 rfl (lv_at hl 2 rfl) ?_
  refine la_arg (pc := 481) (k := 1) B hl (by omega) hS dL_law_481 dL_law_482 dL_law_483 (by decide) dL_law_484 dL_law_485 ?_
  refine la_cm (pc := 486) (rest := [.int r]) (As := [.int (xs (i + 1))]) B hl (F7_choice_ck l (xs (i + 1)) m eM) mi_X7_choice gw_970 rfl ⟨gw_971, gw_972⟩ rfl ⟨Nat.le_of_ble_eq_true rfl, Nat.le_of_ble_eq_true rfl⟩ (Nat.le_of_ble_eq_true rfl) dL_law_486 hP hD hS rfl (fun H locs hP hD hS => ?_)
  exact lv_icmp_eq (pc := 489) (tgt := 1127) hx hb dL_law_489 (by decide) (fun _ => k H locs _ _ hR2 hP hD hS) (fun z => absurd rfl z)
theorem la_go (B : lB p s md meth c D cI cZ b L xs adX) (hl : lL lsC b i adX adM) (hi : i + 4 ≤ L) (k : lW p l e s md b below meth c D cI cZ adX adM lsC Q 1127) : lW p l e s md b below meth c D cI cZ adX adM lsC Q 494 := by
  have B2 := B
  obtain ⟨hx, hb, hr, hlk, hml, hown, hts, hK, hX, hbl, hKx, hL⟩ := B2
  intro H locs x m hR hP hD hS
  obtain ⟨r, y, n, eX, eM, hR2⟩ := go_bo hR (xs (i + 1))
  refine lv_aload_n hx hb dL_law_494 rfl (lv_at hl 1 rfl) ?_
  refine la_arg (pc := 495) (k := 1) B hl (by omega) hS dL_law_495 dL_law_496 dL_law_497 (by decide) dL_law_498 dL_law_499 ?_
  refine la_cx (pc := 500) (rest := []) (As := [.int (xs (i + 1))]) B hl (F6_go_ck l (xs (i + 1)) x eX) mi_X6_go gw_555 rfl ⟨gw_556, gw_557⟩ rfl ⟨Nat.le_of_ble_eq_true rfl, Nat.le_of_ble_eq_true rfl⟩ (Nat.le_of_ble_eq_true rfl) dL_law_500 hP hD hS rfl (fun H locs hP hD hS => ?_)
  refine lv_aload_n hx hb dL_law_503 rfl (lv_at hl 2 rfl) ?_
  refine la_arg (pc := 504) (k := 1) B hl (by omega) hS dL_law_504 dL_law_505 dL_law_506 (by decide) dL_law_507 dL_law_508 ?_
  refine la_cm (pc := 509) (rest := [.int r]) (As := [.int (xs (i + 1))]) B hl (F7_go_ck l (xs (i + 1)) m eM) mi_X7_go gw_978 rfl ⟨gw_979, gw_980⟩ rfl ⟨Nat.le_of_ble_eq_true rfl, Nat.le_of_ble_eq_true rfl⟩ (Nat.le_of_ble_eq_true rfl) dL_law_509 hP hD hS rfl (fun H locs hP hD hS => ?_)
  exact lv_icmp_eq (pc := 512) (tgt := 1127) hx hb dL_law_512 (by decide) (fun _ => k H locs _ _ hR2 hP hD hS) (fun z => absurd rfl z)
theorem la_now (B : lB p s md meth c D cI cZ b L xs adX) (hl : lL lsC b i adX adM) (hi : i + 4 ≤ L) (k : lW p l e s md b below meth c D cI cZ adX adM lsC Q 1127) : lW p l e s md b below meth c D cI cZ adX adM lsC Q 517 := by
  have B2 := B
  obtain ⟨hx, hb, hr, hlk, hml, hown, hts, hK, hX, hbl, hKx, hL⟩ := B2
  intro H locs x m hR hP hD hS
  obtain ⟨r, y, n, eX, eM, hR2⟩ := now_bo hR (xs (i + 1))
  refine lv_aload_n hx hb dL_law_517 rfl (lv_at hl 1 rfl) ?_
  refine la_arg (pc := 518) (k := 1) B hl (by omega) hS dL_law_518 dL_law_519 dL_law_520 (by decide) dL_law_521 dL_law_522 ?_
  refine la_cx (pc := 523) (rest := []) (As := [.int (xs (i + 1))]) B hl (F6_now_ck l (xs (i + 1)) x eX) mi_X6_now gw_584 rfl ⟨gw_585, gw_586⟩ rfl ⟨Nat.le_of_ble_eq_true rfl, Nat.le_of_ble_eq_true rfl⟩ (Nat.le_of_ble_eq_true rfl) dL_law_523 hP hD hS rfl (fun H locs hP hD hS => ?_)
  refine lv_aload_n hx hb dL_law_526 rfl (lv_at hl 2 rfl) ?_
  refine la_arg (pc := 527) (k := 1) B hl (by omega) hS dL_law_527 dL_law_528 dL_law_529 (by decide) dL_law_530 dL_law_531 ?_
  refine la_cm (pc := 532) (rest := [.int r]) (As := [.int (xs (i + 1))]) B hl (F7_now_ck l (xs (i + 1)) m eM) mi_X7_now gw_989 rfl ⟨gw_990, gw_991⟩ rfl ⟨Nat.le_of_ble_eq_true rfl, Nat.le_of_ble_eq_true rfl⟩ (Nat.le_of_ble_eq_true rfl) dL_law_532 hP hD hS rfl (fun H locs hP hD hS => ?_)
  exact lv_icmp_eq (pc := 535) (tgt := 1127) hx hb dL_law_535 (by decide) (fun _ => k H locs _ _ hR2 hP hD hS) (fun z => absurd rfl z)
theorem la_anew (B : lB p s md meth c D cI cZ b L xs adX) (hl : lL lsC b i adX adM) (hi : i + 4 ≤ L) (k : lW p l e s md b below meth c D cI cZ adX adM lsC Q 1127) : lW p l e s md b below meth c D cI cZ adX adM lsC Q 540 := by
  have B2 := B
  obtain ⟨hx, hb, hr, hlk, hml, hown, hts, hK, hX, hbl, hKx, hL⟩ := B2
  intro H locs x m hR hP hD hS
  obtain ⟨r, y, n, eX, eM, hR2⟩ := anew_bo hR 
  refine lv_aload_n hx hb dL_law_540 rfl (lv_at hl 1 rfl) ?_
  refine la_cx (pc := 541) (rest := []) (As := []) B hl (F6_anew_ck l  x eX) mi_X6_anew gw_591 rfl ⟨gw_592, gw_593⟩ rfl ⟨Nat.le_of_ble_eq_true rfl, Nat.le_of_ble_eq_true rfl⟩ (Nat.le_of_ble_eq_true rfl) dL_law_541 hP hD hS rfl (fun H locs hP hD hS => ?_)
  refine lv_aload_n hx hb dL_law_544 rfl (lv_at hl 2 rfl) ?_
  refine la_cm (pc := 545) (rest := [.int r]) (As := []) B hl (F7_anew_ck l  m eM) mi_X7_anew gw_997 rfl ⟨gw_998, gw_999⟩ rfl ⟨Nat.le_of_ble_eq_true rfl, Nat.le_of_ble_eq_true rfl⟩ (Nat.le_of_ble_eq_true rfl) dL_law_545 hP hD hS rfl (fun H locs hP hD hS => ?_)
  exact lv_icmp_eq (pc := 548) (tgt := 1127) hx hb dL_law_548 (by decide) (fun _ => k H locs _ _ hR2 hP hD hS) (fun z => absurd rfl z)
theorem la_term (B : lB p s md meth c D cI cZ b L xs adX) (hl : lL lsC b i adX adM) (hi : i + 4 ≤ L) (k : lW p l e s md b below meth c D cI cZ adX adM lsC Q 1127) : lW p l e s md b below meth c D cI cZ adX adM lsC Q 553 := by
  have B2 := B
  obtain ⟨hx, hb, hr, hlk, hml, hown, hts, hK, hX, hbl, hKx, hL⟩ := B2
  intro H locs x m hR hP hD hS
  obtain ⟨r, y, n, eX, eM, hR2⟩ := term_bo hR (xs (i + 1))
  refine lv_aload_n hx hb dL_law_553 rfl (lv_at hl 1 rfl) ?_
  refine la_arg (pc := 554) (k := 1) B hl (by omega) hS dL_law_554 dL_law_555 dL_law_556 (by decide) dL_law_557 dL_law_558 ?_
  refine la_cx (pc := 559) (rest := []) (As := [.int (xs (i + 1))]) B hl (F6_term_ck l (xs (i + 1)) x eX) mi_X6_term gw_595 rfl ⟨gw_596, gw_597⟩ rfl ⟨Nat.le_of_ble_eq_true rfl, Nat.le_of_ble_eq_true rfl⟩ (Nat.le_of_ble_eq_true rfl) dL_law_559 hP hD hS rfl (fun H locs hP hD hS => ?_)
  refine lv_aload_n hx hb dL_law_562 rfl (lv_at hl 2 rfl) ?_
  refine la_arg (pc := 563) (k := 1) B hl (by omega) hS dL_law_563 dL_law_564 dL_law_565 (by decide) dL_law_566 dL_law_567 ?_
  refine la_cm (pc := 568) (rest := [.int r]) (As := [.int (xs (i + 1))]) B hl (F7_term_ck l (xs (i + 1)) m eM) mi_X7_term gw_1001 rfl ⟨gw_1002, gw_1003⟩ rfl ⟨Nat.le_of_ble_eq_true rfl, Nat.le_of_ble_eq_true rfl⟩ (Nat.le_of_ble_eq_true rfl) dL_law_568 hP hD hS rfl (fun H locs hP hD hS => ?_)
  exact lv_icmp_eq (pc := 571) (tgt := 1127) hx hb dL_law_571 (by decide) (fun _ => k H locs _ _ hR2 hP hD hS) (fun z => absurd rfl z)
theorem la_end (B : lB p s md meth c D cI cZ b L xs adX) (hl : lL lsC b i adX adM) (hi : i + 4 ≤ L) (k : lW p l e s md b below meth c D cI cZ adX adM lsC Q 1127) : lW p l e s md b below meth c D cI cZ adX adM lsC Q 576 := by
  have B2 := B
  obtain ⟨hx, hb, hr, hlk, hml, hown, hts, hK, hX, hbl, hKx, hL⟩ := B2
  intro H locs x m hR hP hD hS
  obtain ⟨r, y, n, eX, eM, hR2⟩ := end_bo hR (xs (i + 1))
  refine lv_aload_n hx hb dL_law_576 rfl (lv_at hl 1 rfl) ?_
  refine la_arg (pc := 577) (k := 1) B hl (by omega) hS dL_law_577 dL_law_578 dL_law_579 (by decide) dL_law_580 dL_law_581 ?_
  refine la_cx (pc := 582) (rest := []) (As := [.int (xs (i + 1))]) B hl (F6_end_ck l (xs (i + 1)) x eX) mi_X6_end gw_604 rfl ⟨gw_605, gw_606⟩ rfl ⟨Nat.le_of_ble_eq_true rfl, Nat.le_of_ble_eq_true rfl⟩ (Nat.le_of_ble_eq_true rfl) dL_law_582 hP hD hS rfl (fun H locs hP hD hS => ?_)
  refine lv_aload_n hx hb dL_law_585 rfl (lv_at hl 2 rfl) ?_
  refine la_arg (pc := 586) (k := 1) B hl (by omega) hS dL_law_586 dL_law_587 dL_law_588 (by decide) dL_law_589 dL_law_590 ?_
  refine la_cm (pc := 591) (rest := [.int r]) (As := [.int (xs (i + 1))]) B hl (F7_end_ck l (xs (i + 1)) m eM) mi_X7_end gw_1009 rfl ⟨gw_1010, gw_1011⟩ rfl ⟨Nat.le_of_ble_eq_true rfl, Nat.le_of_ble_eq_true rfl⟩ (Nat.le_of_ble_eq_true rfl) dL_law_591 hP hD hS rfl (fun H locs hP hD hS => ?_)
  exact lv_icmp_eq (pc := 594) (tgt := 1127) hx hb dL_law_594 (by decide) (fun _ => k H locs _ _ hR2 hP hD hS) (fun z => absurd rfl z)
theorem la_best (B : lB p s md meth c D cI cZ b L xs adX) (hl : lL lsC b i adX adM) (hi : i + 4 ≤ L) (k : lW p l e s md b below meth c D cI cZ adX adM lsC Q 1127) : lW p l e s md b below meth c D cI cZ adX adM lsC Q 599 := by
  have B2 := B
  obtain ⟨hx, hb, hr, hlk, hml, hown, hts, hK, hX, hbl, hKx, hL⟩ := B2
  intro H locs x m hR hP hD hS
  obtain ⟨r, y, n, eX, eM, hR2⟩ := best_bo hR (xs (i + 1)) (xs (i + 2)) (xs (i + 3))
  refine lv_aload_n hx hb dL_law_599 rfl (lv_at hl 1 rfl) ?_
  refine la_arg (pc := 600) (k := 1) B hl (by omega) hS dL_law_600 dL_law_601 dL_law_602 (by decide) dL_law_603 dL_law_604 ?_
  refine la_arg (pc := 605) (k := 2) B hl (by omega) hS dL_law_605 dL_law_606 dL_law_607 (by decide) dL_law_608 dL_law_609 ?_
  refine la_arg (pc := 610) (k := 3) B hl (by omega) hS dL_law_610 dL_law_611 dL_law_612 (by decide) dL_law_613 dL_law_614 ?_
  refine la_cx (pc := 615) (rest := []) (As := [.int (xs (i + 1)), .int (xs (i + 2)), .int (xs (i + 3))]) B hl (F6_best_ck l (xs (i + 1)) (xs (i + 2)) (xs (i + 3)) x eX) mi_X6_best gw_612 rfl ⟨gw_613, gw_614⟩ rfl ⟨Nat.le_of_ble_eq_true rfl, Nat.le_of_ble_eq_true rfl⟩ (Nat.le_of_ble_eq_true rfl) dL_law_615 hP hD hS rfl (fun H locs hP hD hS => ?_)
  refine lv_aload_n hx hb dL_law_618 rfl (lv_at hl 2 rfl) ?_
  refine la_arg (pc := 619) (k := 1) B hl (by omega) hS dL_law_619 dL_law_620 dL_law_621 (by decide) dL_law_622 dL_law_623 ?_
  refine la_arg (pc := 624) (k := 2) B hl (by omega) hS dL_law_624 dL_law_625 dL_law_626 (by decide) dL_law_627 dL_law_628 ?_
  refine la_arg (pc := 629) (k := 3) B hl (by omega) hS dL_law_629 dL_law_630 dL_law_631 (by decide) dL_law_632 dL_law_633 ?_
  refine la_cm (pc := 634) (rest := [.int r]) (As := [.int (xs (i + 1)), .int (xs (i + 2)), .int (xs (i + 3))]) B hl (F7_best_ck l (xs (i + 1)) (xs (i + 2)) (xs (i + 3)) m eM) mi_X7_best gw_1017 rfl ⟨gw_1018, gw_1019⟩ rfl ⟨Nat.le_of_ble_eq_true rfl, Nat.le_of_ble_eq_true rfl⟩ (Nat.le_of_ble_eq_true rfl) dL_law_634 hP hD hS rfl (fun H locs hP hD hS => ?_)
  exact lv_icmp_eq (pc := 637) (tgt := 1127) hx hb dL_law_637 (by decide) (fun _ => k H locs _ _ hR2 hP hD hS) (fun z => absurd rfl z)
theorem la_line (B : lB p s md meth c D cI cZ b L xs adX) (hl : lL lsC b i adX adM) (hi : i + 4 ≤ L) (k : lW p l e s md b below meth c D cI cZ adX adM lsC Q 1127) : lW p l e s md b below meth c D cI cZ adX adM lsC Q 642 := by
  have B2 := B
  obtain ⟨hx, hb, hr, hlk, hml, hown, hts, hK, hX, hbl, hKx, hL⟩ := B2
  intro H locs x m hR hP hD hS
  obtain ⟨r, y, n, eX, eM, hR2⟩ := line_bo hR (xs (i + 1)) (xs (i + 2)) (xs (i + 3))
  refine lv_aload_n hx hb dL_law_642 rfl (lv_at hl 1 rfl) ?_
  refine la_arg (pc := 643) (k := 1) B hl (by omega) hS dL_law_643 dL_law_644 dL_law_645 (by decide) dL_law_646 dL_law_647 ?_
  refine la_arg (pc := 648) (k := 2) B hl (by omega) hS dL_law_648 dL_law_649 dL_law_650 (by decide) dL_law_651 dL_law_652 ?_
  refine la_arg (pc := 653) (k := 3) B hl (by omega) hS dL_law_653 dL_law_654 dL_law_655 (by decide) dL_law_656 dL_law_657 ?_
  refine la_cx (pc := 658) (rest := []) (As := [.int (xs (i + 1)), .int (xs (i + 2)), .int (xs (i + 3))]) B hl (F6_line_ck l (xs (i + 1)) (xs (i + 2)) (xs (i + 3)) x eX) mi_X6_line gw_616 rfl ⟨gw_617, gw_618⟩ rfl ⟨Nat.le_of_ble_eq_true rfl, Nat.le_of_ble_eq_true rfl⟩ (Nat.le_of_ble_eq_true rfl) dL_law_658 hP hD hS rfl (fun H locs hP hD hS => ?_)
  refine lv_aload_n hx hb dL_law_661 rfl (lv_at hl 2 rfl) ?_
  refine la_arg (pc := 662) (k := 1) B hl (by omega) hS dL_law_662 dL_law_663 dL_law_664 (by decide) dL_law_665 dL_law_666 ?_
  refine la_arg (pc := 667) (k := 2) B hl (by omega) hS dL_law_667 dL_law_668 dL_law_669 (by decide) dL_law_670 dL_law_671 ?_
  refine la_arg (pc := 672) (k := 3) B hl (by omega) hS dL_law_672 dL_law_673 dL_law_674 (by decide) dL_law_675 dL_law_676 ?_
  refine la_cm (pc := 677) (rest := [.int r]) (As := [.int (xs (i + 1)), .int (xs (i + 2)), .int (xs (i + 3))]) B hl (F7_line_ck l (xs (i + 1)) (xs (i + 2)) (xs (i + 3)) m eM) mi_X7_line gw_1025 rfl ⟨gw_1026, gw_1027⟩ rfl ⟨Nat.le_of_ble_eq_true rfl, Nat.le_of_ble_eq_true rfl⟩ (Nat.le_of_ble_eq_true rfl) dL_law_677 hP hD hS rfl (fun H locs hP hD hS => ?_)
  exact lv_icmp_eq (pc := 680) (tgt := 1127) hx hb dL_law_680 (by decide) (fun _ => k H locs _ _ hR2 hP hD hS) (fun z => absurd rfl z)
theorem la_ending (B : lB p s md meth c D cI cZ b L xs adX) (hl : lL lsC b i adX adM) (hi : i + 4 ≤ L) (k : lW p l e s md b below meth c D cI cZ adX adM lsC Q 1127) : lW p l e s md b below meth c D cI cZ adX adM lsC Q 685 := by
  have B2 := B
  obtain ⟨hx, hb, hr, hlk, hml, hown, hts, hK, hX, hbl, hKx, hL⟩ := B2
  intro H locs x m hR hP hD hS
  obtain ⟨r, y, n, eX, eM, hR2⟩ := ending_bo hR (xs (i + 1))
  refine lv_aload_n hx hb dL_law_685 rfl (lv_at hl 1 rfl) ?_
  refine la_arg (pc := 686) (k := 1) B hl (by omega) hS dL_law_686 dL_law_687 dL_law_688 (by decide) dL_law_689 dL_law_690 ?_
  refine la_cx (pc := 691) (rest := []) (As := [.int (xs (i + 1))]) B hl (F6_ending_ck l (xs (i + 1)) x eX) mi_X6_ending gw_625 rfl ⟨gw_626, gw_627⟩ rfl ⟨Nat.le_of_ble_eq_true rfl, Nat.le_of_ble_eq_true rfl⟩ (Nat.le_of_ble_eq_true rfl) dL_law_691 hP hD hS rfl (fun H locs hP hD hS => ?_)
  refine lv_aload_n hx hb dL_law_694 rfl (lv_at hl 2 rfl) ?_
  refine la_arg (pc := 695) (k := 1) B hl (by omega) hS dL_law_695 dL_law_696 dL_law_697 (by decide) dL_law_698 dL_law_699 ?_
  refine la_cm (pc := 700) (rest := [.int r]) (As := [.int (xs (i + 1))]) B hl (F7_ending_ck l (xs (i + 1)) m eM) mi_X7_ending gw_1029 rfl ⟨gw_1030, gw_1031⟩ rfl ⟨Nat.le_of_ble_eq_true rfl, Nat.le_of_ble_eq_true rfl⟩ (Nat.le_of_ble_eq_true rfl) dL_law_700 hP hD hS rfl (fun H locs hP hD hS => ?_)
  exact lv_icmp_eq (pc := 703) (tgt := 1127) hx hb dL_law_703 (by decide) (fun _ => k H locs _ _ hR2 hP hD hS) (fun z => absurd rfl z)
theorem la_easy (B : lB p s md meth c D cI cZ b L xs adX) (hl : lL lsC b i adX adM) (hi : i + 4 ≤ L) (k : lW p l e s md b below meth c D cI cZ adX adM lsC Q 1127) : lW p l e s md b below meth c D cI cZ adX adM lsC Q 708 := by
  have B2 := B
  obtain ⟨hx, hb, hr, hlk, hml, hown, hts, hK, hX, hbl, hKx, hL⟩ := B2
  intro H locs x m hR hP hD hS
  obtain ⟨r, y, n, eX, eM, hR2⟩ := easy_bo hR 
  refine lv_aload_n hx hb dL_law_708 rfl (lv_at hl 1 rfl) ?_
  refine la_cx (pc := 709) (rest := []) (As := []) B hl (F6_easy_ck l  x eX) mi_X6_easy gw_629 rfl ⟨gw_630, gw_631⟩ rfl ⟨Nat.le_of_ble_eq_true rfl, Nat.le_of_ble_eq_true rfl⟩ (Nat.le_of_ble_eq_true rfl) dL_law_709 hP hD hS rfl (fun H locs hP hD hS => ?_)
  refine lv_aload_n hx hb dL_law_712 rfl (lv_at hl 2 rfl) ?_
  refine la_cm (pc := 713) (rest := [.int r]) (As := []) B hl (F7_easy_ck l  m eM) mi_X7_easy gw_1033 rfl ⟨gw_1034, gw_1035⟩ rfl ⟨Nat.le_of_ble_eq_true rfl, Nat.le_of_ble_eq_true rfl⟩ (Nat.le_of_ble_eq_true rfl) dL_law_713 hP hD hS rfl (fun H locs hP hD hS => ?_)
  exact lv_icmp_eq (pc := 716) (tgt := 1127) hx hb dL_law_716 (by decide) (fun _ => k H locs _ _ hR2 hP hD hS) (fun z => absurd rfl z)
theorem la_stays (B : lB p s md meth c D cI cZ b L xs adX) (hl : lL lsC b i adX adM) (hi : i + 4 ≤ L) (k : lW p l e s md b below meth c D cI cZ adX adM lsC Q 1127) : lW p l e s md b below meth c D cI cZ adX adM lsC Q 721 := by
  have B2 := B
  obtain ⟨hx, hb, hr, hlk, hml, hown, hts, hK, hX, hbl, hKx, hL⟩ := B2
  intro H locs x m hR hP hD hS
  obtain ⟨r, y, n, eX, eM, hR2⟩ := stays_bo hR (xs (i + 1)) (xs (i + 2))
  refine lv_aload_n hx hb dL_law_721 rfl (lv_at hl 1 rfl) ?_
  refine la_arg (pc := 722) (k := 1) B hl (by omega) hS dL_law_722 dL_law_723 dL_law_724 (by decide) dL_law_725 dL_law_726 ?_
  refine la_arg (pc := 727) (k := 2) B hl (by omega) hS dL_law_727 dL_law_728 dL_law_729 (by decide) dL_law_730 dL_law_731 ?_
  refine la_cx (pc := 732) (rest := []) (As := [.int (xs (i + 1)), .int (xs (i + 2))]) B hl (F6_stays_ck l (xs (i + 1)) (xs (i + 2)) x eX) mi_X6_stays gw_633 rfl ⟨gw_634, gw_635⟩ rfl ⟨Nat.le_of_ble_eq_true rfl, Nat.le_of_ble_eq_true rfl⟩ (Nat.le_of_ble_eq_true rfl) dL_law_732 hP hD hS rfl (fun H locs hP hD hS => ?_)
  refine lv_aload_n hx hb dL_law_735 rfl (lv_at hl 2 rfl) ?_
  refine la_arg (pc := 736) (k := 1) B hl (by omega) hS dL_law_736 dL_law_737 dL_law_738 (by decide) dL_law_739 dL_law_740 ?_
  refine la_arg (pc := 741) (k := 2) B hl (by omega) hS dL_law_741 dL_law_742 dL_law_743 (by decide) dL_law_744 dL_law_745 ?_
  refine la_cm (pc := 746) (rest := [.int r]) (As := [.int (xs (i + 1)), .int (xs (i + 2))]) B hl (F7_stays_ck l (xs (i + 1)) (xs (i + 2)) m eM) mi_X7_stays gw_1037 rfl ⟨gw_1038, gw_1039⟩ rfl ⟨Nat.le_of_ble_eq_true rfl, Nat.le_of_ble_eq_true rfl⟩ (Nat.le_of_ble_eq_true rfl) dL_law_746 hP hD hS rfl (fun H locs hP hD hS => ?_)
  exact lv_icmp_eq (pc := 749) (tgt := 1127) hx hb dL_law_749 (by decide) (fun _ => k H locs _ _ hR2 hP hD hS) (fun z => absurd rfl z)
theorem la_rests (B : lB p s md meth c D cI cZ b L xs adX) (hl : lL lsC b i adX adM) (hi : i + 4 ≤ L) (k : lW p l e s md b below meth c D cI cZ adX adM lsC Q 1127) : lW p l e s md b below meth c D cI cZ adX adM lsC Q 754 := by
  have B2 := B
  obtain ⟨hx, hb, hr, hlk, hml, hown, hts, hK, hX, hbl, hKx, hL⟩ := B2
  intro H locs x m hR hP hD hS
  obtain ⟨r, y, n, eX, eM, hR2⟩ := rests_bo hR (xs (i + 1)) (xs (i + 2)) (xs (i + 3))
  refine lv_aload_n hx hb dL_law_754 rfl (lv_at hl 1 rfl) ?_
  refine la_arg (pc := 755) (k := 1) B hl (by omega) hS dL_law_755 dL_law_756 dL_law_757 (by decide) dL_law_758 dL_law_759 ?_
  refine la_arg (pc := 760) (k := 2) B hl (by omega) hS dL_law_760 dL_law_761 dL_law_762 (by decide) dL_law_763 dL_law_764 ?_
  refine la_arg (pc := 765) (k := 3) B hl (by omega) hS dL_law_765 dL_law_766 dL_law_767 (by decide) dL_law_768 dL_law_769 ?_
  refine la_cx (pc := 770) (rest := []) (As := [.int (xs (i + 1)), .int (xs (i + 2)), .int (xs (i + 3))]) B hl (F6_rests_ck l (xs (i + 1)) (xs (i + 2)) (xs (i + 3)) x eX) mi_X6_rests gw_637 rfl ⟨gw_638, gw_639⟩ rfl ⟨Nat.le_of_ble_eq_true rfl, Nat.le_of_ble_eq_true rfl⟩ (Nat.le_of_ble_eq_true rfl) dL_law_770 hP hD hS rfl (fun H locs hP hD hS => ?_)
  refine lv_aload_n hx hb dL_law_773 rfl (lv_at hl 2 rfl) ?_
  refine la_arg (pc := 774) (k := 1) B hl (by omega) hS dL_law_774 dL_law_775 dL_law_776 (by decide) dL_law_777 dL_law_778 ?_
  refine la_arg (pc := 779) (k := 2) B hl (by omega) hS dL_law_779 dL_law_780 dL_law_781 (by decide) dL_law_782 dL_law_783 ?_
  refine la_arg (pc := 784) (k := 3) B hl (by omega) hS dL_law_784 dL_law_785 dL_law_786 (by decide) dL_law_787 dL_law_788 ?_
  refine la_cm (pc := 789) (rest := [.int r]) (As := [.int (xs (i + 1)), .int (xs (i + 2)), .int (xs (i + 3))]) B hl (F7_rests_ck l (xs (i + 1)) (xs (i + 2)) (xs (i + 3)) m eM) mi_X7_rests gw_1041 rfl ⟨gw_1042, gw_1043⟩ rfl ⟨Nat.le_of_ble_eq_true rfl, Nat.le_of_ble_eq_true rfl⟩ (Nat.le_of_ble_eq_true rfl) dL_law_789 hP hD hS rfl (fun H locs hP hD hS => ?_)
  exact lv_icmp_eq (pc := 792) (tgt := 1127) hx hb dL_law_792 (by decide) (fun _ => k H locs _ _ hR2 hP hD hS) (fun z => absurd rfl z)
theorem la_blamed (B : lB p s md meth c D cI cZ b L xs adX) (hl : lL lsC b i adX adM) (hi : i + 4 ≤ L) (k : lW p l e s md b below meth c D cI cZ adX adM lsC Q 1127) : lW p l e s md b below meth c D cI cZ adX adM lsC Q 797 := by
  have B2 := B
  obtain ⟨hx, hb, hr, hlk, hml, hown, hts, hK, hX, hbl, hKx, hL⟩ := B2
  intro H locs x m hR hP hD hS
  obtain ⟨r, y, n, eX, eM, hR2⟩ := blamed_bo hR (xs (i + 1)) (xs (i + 2))
  refine lv_aload_n hx hb dL_law_797 rfl (lv_at hl 1 rfl) ?_
  refine la_arg (pc := 798) (k := 1) B hl (by omega) hS dL_law_798 dL_law_799 dL_law_800 (by decide) dL_law_801 dL_law_802 ?_
  refine la_arg (pc := 803) (k := 2) B hl (by omega) hS dL_law_803 dL_law_804 dL_law_805 (by decide) dL_law_806 dL_law_807 ?_
  refine la_cx (pc := 808) (rest := []) (As := [.int (xs (i + 1)), .int (xs (i + 2))]) B hl (F6_blamed_ck l (xs (i + 1)) (xs (i + 2)) x eX) mi_X6_blamed gw_658 rfl ⟨gw_659, gw_660⟩ rfl ⟨Nat.le_of_ble_eq_true rfl, Nat.le_of_ble_eq_true rfl⟩ (Nat.le_of_ble_eq_true rfl) dL_law_808 hP hD hS rfl (fun H locs hP hD hS => ?_)
  refine lv_aload_n hx hb dL_law_811 rfl (lv_at hl 2 rfl) ?_
  refine la_arg (pc := 812) (k := 1) B hl (by omega) hS dL_law_812 dL_law_813 dL_law_814 (by decide) dL_law_815 dL_law_816 ?_
  refine la_arg (pc := 817) (k := 2) B hl (by omega) hS dL_law_817 dL_law_818 dL_law_819 (by decide) dL_law_820 dL_law_821 ?_
  refine la_cm (pc := 822) (rest := [.int r]) (As := [.int (xs (i + 1)), .int (xs (i + 2))]) B hl (F7_blamed_ck l (xs (i + 1)) (xs (i + 2)) m eM) mi_X7_blamed gw_1057 rfl ⟨gw_1058, gw_1059⟩ rfl ⟨Nat.le_of_ble_eq_true rfl, Nat.le_of_ble_eq_true rfl⟩ (Nat.le_of_ble_eq_true rfl) dL_law_822 hP hD hS rfl (fun H locs hP hD hS => ?_)
  exact lv_icmp_eq (pc := 825) (tgt := 1127) hx hb dL_law_825 (by decide) (fun _ => k H locs _ _ hR2 hP hD hS) (fun z => absurd rfl z)
theorem la_checks (B : lB p s md meth c D cI cZ b L xs adX) (hl : lL lsC b i adX adM) (hi : i + 4 ≤ L) (k : lW p l e s md b below meth c D cI cZ adX adM lsC Q 1127) : lW p l e s md b below meth c D cI cZ adX adM lsC Q 830 := by
  have B2 := B
  obtain ⟨hx, hb, hr, hlk, hml, hown, hts, hK, hX, hbl, hKx, hL⟩ := B2
  intro H locs x m hR hP hD hS
  obtain ⟨r, y, n, eX, eM, hR2⟩ := checks_bo hR (xs (i + 1))
  refine lv_aload_n hx hb dL_law_830 rfl (lv_at hl 1 rfl) ?_
  refine la_arg (pc := 831) (k := 1) B hl (by omega) hS dL_law_831 dL_law_832 dL_law_833 (by decide) dL_law_834 dL_law_835 ?_
  refine la_cx (pc := 836) (rest := []) (As := [.int (xs (i + 1))]) B hl (F6_checks_ck l (xs (i + 1)) x eX) mi_X6_checks gw_666 rfl ⟨gw_667, gw_668⟩ rfl ⟨Nat.le_of_ble_eq_true rfl, Nat.le_of_ble_eq_true rfl⟩ (Nat.le_of_ble_eq_true rfl) dL_law_836 hP hD hS rfl (fun H locs hP hD hS => ?_)
  refine lv_aload_n hx hb dL_law_839 rfl (lv_at hl 2 rfl) ?_
  refine la_arg (pc := 840) (k := 1) B hl (by omega) hS dL_law_840 dL_law_841 dL_law_842 (by decide) dL_law_843 dL_law_844 ?_
  refine la_cm (pc := 845) (rest := [.int r]) (As := [.int (xs (i + 1))]) B hl (F7_checks_ck l (xs (i + 1)) m eM) mi_X7_checks gw_1061 rfl ⟨gw_1062, gw_1063⟩ rfl ⟨Nat.le_of_ble_eq_true rfl, Nat.le_of_ble_eq_true rfl⟩ (Nat.le_of_ble_eq_true rfl) dL_law_845 hP hD hS rfl (fun H locs hP hD hS => ?_)
  exact lv_icmp_eq (pc := 848) (tgt := 1127) hx hb dL_law_848 (by decide) (fun _ => k H locs _ _ hR2 hP hD hS) (fun z => absurd rfl z)
theorem la_trial (B : lB p s md meth c D cI cZ b L xs adX) (hl : lL lsC b i adX adM) (hi : i + 4 ≤ L) (k : lW p l e s md b below meth c D cI cZ adX adM lsC Q 1127) : lW p l e s md b below meth c D cI cZ adX adM lsC Q 853 := by
  have B2 := B
  obtain ⟨hx, hb, hr, hlk, hml, hown, hts, hK, hX, hbl, hKx, hL⟩ := B2
  intro H locs x m hR hP hD hS
  obtain ⟨r, y, n, eX, eM, hR2⟩ := trial_bo hR (xs (i + 1)) (xs (i + 2))
  refine lv_aload_n hx hb dL_law_853 rfl (lv_at hl 1 rfl) ?_
  refine la_arg (pc := 854) (k := 1) B hl (by omega) hS dL_law_854 dL_law_855 dL_law_856 (by decide) dL_law_857 dL_law_858 ?_
  refine la_arg (pc := 859) (k := 2) B hl (by omega) hS dL_law_859 dL_law_860 dL_law_861 (by decide) dL_law_862 dL_law_863 ?_
  refine la_cx (pc := 864) (rest := []) (As := [.int (xs (i + 1)), .int (xs (i + 2))]) B hl (F6_trial_ck l (xs (i + 1)) (xs (i + 2)) x eX) mi_X6_trial gw_670 rfl ⟨gw_671, gw_672⟩ rfl ⟨Nat.le_of_ble_eq_true rfl, Nat.le_of_ble_eq_true rfl⟩ (Nat.le_of_ble_eq_true rfl) dL_law_864 hP hD hS rfl (fun H locs hP hD hS => ?_)
  refine lv_aload_n hx hb dL_law_867 rfl (lv_at hl 2 rfl) ?_
  refine la_arg (pc := 868) (k := 1) B hl (by omega) hS dL_law_868 dL_law_869 dL_law_870 (by decide) dL_law_871 dL_law_872 ?_
  refine la_arg (pc := 873) (k := 2) B hl (by omega) hS dL_law_873 dL_law_874 dL_law_875 (by decide) dL_law_876 dL_law_877 ?_
  refine la_cm (pc := 878) (rest := [.int r]) (As := [.int (xs (i + 1)), .int (xs (i + 2))]) B hl (F7_trial_ck l (xs (i + 1)) (xs (i + 2)) m eM) mi_X7_trial gw_1065 rfl ⟨gw_1066, gw_1067⟩ rfl ⟨Nat.le_of_ble_eq_true rfl, Nat.le_of_ble_eq_true rfl⟩ (Nat.le_of_ble_eq_true rfl) dL_law_878 hP hD hS rfl (fun H locs hP hD hS => ?_)
  exact lv_icmp_eq (pc := 881) (tgt := 1127) hx hb dL_law_881 (by decide) (fun _ => k H locs _ _ hR2 hP hD hS) (fun z => absurd rfl z)
theorem la_joined (B : lB p s md meth c D cI cZ b L xs adX) (hl : lL lsC b i adX adM) (hi : i + 4 ≤ L) (k : lW p l e s md b below meth c D cI cZ adX adM lsC Q 1127) : lW p l e s md b below meth c D cI cZ adX adM lsC Q 886 := by
  have B2 := B
  obtain ⟨hx, hb, hr, hlk, hml, hown, hts, hK, hX, hbl, hKx, hL⟩ := B2
  intro H locs x m hR hP hD hS
  obtain ⟨r, y, n, eX, eM, hR2⟩ := joined_bo hR (xs (i + 1)) (xs (i + 2))
  refine lv_aload_n hx hb dL_law_886 rfl (lv_at hl 1 rfl) ?_
  refine la_arg (pc := 887) (k := 1) B hl (by omega) hS dL_law_887 dL_law_888 dL_law_889 (by decide) dL_law_890 dL_law_891 ?_
  refine la_arg (pc := 892) (k := 2) B hl (by omega) hS dL_law_892 dL_law_893 dL_law_894 (by decide) dL_law_895 dL_law_896 ?_
  refine la_cx (pc := 897) (rest := []) (As := [.int (xs (i + 1)), .int (xs (i + 2))]) B hl (F6_joined_ck l (xs (i + 1)) (xs (i + 2)) x eX) mi_X6_joined gw_678 rfl ⟨gw_679, gw_680⟩ rfl ⟨Nat.le_of_ble_eq_true rfl, Nat.le_of_ble_eq_true rfl⟩ (Nat.le_of_ble_eq_true rfl) dL_law_897 hP hD hS rfl (fun H locs hP hD hS => ?_)
  refine lv_aload_n hx hb dL_law_900 rfl (lv_at hl 2 rfl) ?_
  refine la_arg (pc := 901) (k := 1) B hl (by omega) hS dL_law_901 dL_law_902 dL_law_903 (by decide) dL_law_904 dL_law_905 ?_
  refine la_arg (pc := 906) (k := 2) B hl (by omega) hS dL_law_906 dL_law_907 dL_law_908 (by decide) dL_law_909 dL_law_910 ?_
  refine la_cm (pc := 911) (rest := [.int r]) (As := [.int (xs (i + 1)), .int (xs (i + 2))]) B hl (F7_joined_ck l (xs (i + 1)) (xs (i + 2)) m eM) mi_X7_joined gw_1069 rfl ⟨gw_1070, gw_1071⟩ rfl ⟨Nat.le_of_ble_eq_true rfl, Nat.le_of_ble_eq_true rfl⟩ (Nat.le_of_ble_eq_true rfl) dL_law_911 hP hD hS rfl (fun H locs hP hD hS => ?_)
  exact lv_icmp_eq (pc := 914) (tgt := 1127) hx hb dL_law_914 (by decide) (fun _ => k H locs _ _ hR2 hP hD hS) (fun z => absurd rfl z)
theorem la_parts (B : lB p s md meth c D cI cZ b L xs adX) (hl : lL lsC b i adX adM) (hi : i + 4 ≤ L) (k : lW p l e s md b below meth c D cI cZ adX adM lsC Q 1127) : lW p l e s md b below meth c D cI cZ adX adM lsC Q 919 := by
  have B2 := B
  obtain ⟨hx, hb, hr, hlk, hml, hown, hts, hK, hX, hbl, hKx, hL⟩ := B2
  intro H locs x m hR hP hD hS
  obtain ⟨r, y, n, eX, eM, hR2⟩ := parts_bo hR 
  refine lv_aload_n hx hb dL_law_919 rfl (lv_at hl 1 rfl) ?_
  refine la_cx (pc := 920) (rest := []) (As := []) B hl (F6_parts_ck l  x eX) mi_X6_parts gw_696 rfl ⟨gw_697, gw_698⟩ rfl ⟨Nat.le_of_ble_eq_true rfl, Nat.le_of_ble_eq_true rfl⟩ (Nat.le_of_ble_eq_true rfl) dL_law_920 hP hD hS rfl (fun H locs hP hD hS => ?_)
  refine lv_aload_n hx hb dL_law_923 rfl (lv_at hl 2 rfl) ?_
  refine la_cm (pc := 924) (rest := [.int r]) (As := []) B hl (F7_parts_ck l  m eM) mi_X7_parts gw_1089 rfl ⟨gw_1090, gw_1091⟩ rfl ⟨Nat.le_of_ble_eq_true rfl, Nat.le_of_ble_eq_true rfl⟩ (Nat.le_of_ble_eq_true rfl) dL_law_924 hP hD hS rfl (fun H locs hP hD hS => ?_)
  exact lv_icmp_eq (pc := 927) (tgt := 1127) hx hb dL_law_927 (by decide) (fun _ => k H locs _ _ hR2 hP hD hS) (fun z => absurd rfl z)
theorem la_ahead (B : lB p s md meth c D cI cZ b L xs adX) (hl : lL lsC b i adX adM) (hi : i + 4 ≤ L) (k : lW p l e s md b below meth c D cI cZ adX adM lsC Q 1127) : lW p l e s md b below meth c D cI cZ adX adM lsC Q 932 := by
  have B2 := B
  obtain ⟨hx, hb, hr, hlk, hml, hown, hts, hK, hX, hbl, hKx, hL⟩ := B2
  intro H locs x m hR hP hD hS
  obtain ⟨r, y, n, eX, eM, hR2⟩ := ahead_bo hR (xs (i + 1)) (xs (i + 2))
  refine lv_aload_n hx hb dL_law_932 rfl (lv_at hl 1 rfl) ?_
  refine la_arg (pc := 933) (k := 1) B hl (by omega) hS dL_law_933 dL_law_934 dL_law_935 (by decide) dL_law_936 dL_law_937 ?_
  refine la_arg (pc := 938) (k := 2) B hl (by omega) hS dL_law_938 dL_law_939 dL_law_940 (by decide) dL_law_941 dL_law_942 ?_
  refine la_cx (pc := 943) (rest := []) (As := [.int (xs (i + 1)), .int (xs (i + 2))]) B hl (F6_ahead_ck l (xs (i + 1)) (xs (i + 2)) x eX) mi_X6_ahead gw_709 rfl ⟨gw_710, gw_711⟩ rfl ⟨Nat.le_of_ble_eq_true rfl, Nat.le_of_ble_eq_true rfl⟩ (Nat.le_of_ble_eq_true rfl) dL_law_943 hP hD hS rfl (fun H locs hP hD hS => ?_)
  refine lv_aload_n hx hb dL_law_946 rfl (lv_at hl 2 rfl) ?_
  refine la_arg (pc := 947) (k := 1) B hl (by omega) hS dL_law_947 dL_law_948 dL_law_949 (by decide) dL_law_950 dL_law_951 ?_
  refine la_arg (pc := 952) (k := 2) B hl (by omega) hS dL_law_952 dL_law_953 dL_law_954 (by decide) dL_law_955 dL_law_956 ?_
  refine la_cm (pc := 957) (rest := [.int r]) (As := [.int (xs (i + 1)), .int (xs (i + 2))]) B hl (F7_ahead_ck l (xs (i + 1)) (xs (i + 2)) m eM) mi_X7_ahead gw_1093 rfl ⟨gw_1094, gw_1095⟩ rfl ⟨Nat.le_of_ble_eq_true rfl, Nat.le_of_ble_eq_true rfl⟩ (Nat.le_of_ble_eq_true rfl) dL_law_957 hP hD hS rfl (fun H locs hP hD hS => ?_)
  exact lv_icmp_eq (pc := 960) (tgt := 1127) hx hb dL_law_960 (by decide) (fun _ => k H locs _ _ hR2 hP hD hS) (fun z => absurd rfl z)
theorem la_halves (B : lB p s md meth c D cI cZ b L xs adX) (hl : lL lsC b i adX adM) (hi : i + 4 ≤ L) (k : lW p l e s md b below meth c D cI cZ adX adM lsC Q 1127) : lW p l e s md b below meth c D cI cZ adX adM lsC Q 965 := by
  have B2 := B
  obtain ⟨hx, hb, hr, hlk, hml, hown, hts, hK, hX, hbl, hKx, hL⟩ := B2
  intro H locs x m hR hP hD hS
  obtain ⟨r, y, n, eX, eM, hR2⟩ := halves_bo hR (xs (i + 1))
  refine lv_aload_n hx hb dL_law_965 rfl (lv_at hl 1 rfl) ?_
  refine la_arg (pc := 966) (k := 1) B hl (by omega) hS dL_law_966 dL_law_967 dL_law_968 (by decide) dL_law_969 dL_law_970 ?_
  refine la_cx (pc := 971) (rest := []) (As := [.int (xs (i + 1))]) B hl (F6_halves_ck l (xs (i + 1)) x eX) mi_X6_halves gw_714 rfl ⟨gw_715, gw_716⟩ rfl ⟨Nat.le_of_ble_eq_true rfl, Nat.le_of_ble_eq_true rfl⟩ (Nat.le_of_ble_eq_true rfl) dL_law_971 hP hD hS rfl (fun H locs hP hD hS => ?_)
  refine lv_aload_n hx hb dL_law_974 rfl (lv_at hl 2 rfl) ?_
  refine la_arg (pc := 975) (k := 1) B hl (by omega) hS dL_law_975 dL_law_976 dL_law_977 (by decide) dL_law_978 dL_law_979 ?_
  refine la_cm (pc := 980) (rest := [.int r]) (As := [.int (xs (i + 1))]) B hl (F7_halves_ck l (xs (i + 1)) m eM) mi_X7_halves gw_1097 rfl ⟨gw_1098, gw_1099⟩ rfl ⟨Nat.le_of_ble_eq_true rfl, Nat.le_of_ble_eq_true rfl⟩ (Nat.le_of_ble_eq_true rfl) dL_law_980 hP hD hS rfl (fun H locs hP hD hS => ?_)
  exact lv_icmp_eq (pc := 983) (tgt := 1127) hx hb dL_law_983 (by decide) (fun _ => k H locs _ _ hR2 hP hD hS) (fun z => absurd rfl z)
theorem la_lot (B : lB p s md meth c D cI cZ b L xs adX) (hl : lL lsC b i adX adM) (hi : i + 4 ≤ L) (k : lW p l e s md b below meth c D cI cZ adX adM lsC Q 1127) : lW p l e s md b below meth c D cI cZ adX adM lsC Q 988 := by
  have B2 := B
  obtain ⟨hx, hb, hr, hlk, hml, hown, hts, hK, hX, hbl, hKx, hL⟩ := B2
  intro H locs x m hR hP hD hS
  obtain ⟨r, y, n, eX, eM, hR2⟩ := lot_bo hR (xs (i + 1))
  refine lv_aload_n hx hb dL_law_988 rfl (lv_at hl 1 rfl) ?_
  refine la_arg (pc := 989) (k := 1) B hl (by omega) hS dL_law_989 dL_law_990 dL_law_991 (by decide) dL_law_992 dL_law_993 ?_
  refine la_cx (pc := 994) (rest := []) (As := [.int (xs (i + 1))]) B hl (F6_lot_ck l (xs (i + 1)) x eX) mi_X6_lot gw_719 rfl ⟨gw_720, gw_721⟩ rfl ⟨Nat.le_of_ble_eq_true rfl, Nat.le_of_ble_eq_true rfl⟩ (Nat.le_of_ble_eq_true rfl) dL_law_994 hP hD hS rfl (fun H locs hP hD hS => ?_)
  refine lv_aload_n hx hb dL_law_997 rfl (lv_at hl 2 rfl) ?_
  refine la_arg (pc := 998) (k := 1) B hl (by omega) hS dL_law_998 dL_law_999 dL_law_1000 (by decide) dL_law_1001 dL_law_1002 ?_
  refine la_cm (pc := 1003) (rest := [.int r]) (As := [.int (xs (i + 1))]) B hl (F7_lot_ck l (xs (i + 1)) m eM) mi_X7_lot gw_1102 rfl ⟨gw_1103, gw_1104⟩ rfl ⟨Nat.le_of_ble_eq_true rfl, Nat.le_of_ble_eq_true rfl⟩ (Nat.le_of_ble_eq_true rfl) dL_law_1003 hP hD hS rfl (fun H locs hP hD hS => ?_)
  exact lv_icmp_eq (pc := 1006) (tgt := 1127) hx hb dL_law_1006 (by decide) (fun _ => k H locs _ _ hR2 hP hD hS) (fun z => absurd rfl z)
theorem la_rate (B : lB p s md meth c D cI cZ b L xs adX) (hl : lL lsC b i adX adM) (hi : i + 4 ≤ L) (k : lW p l e s md b below meth c D cI cZ adX adM lsC Q 1127) : lW p l e s md b below meth c D cI cZ adX adM lsC Q 1011 := by
  have B2 := B
  obtain ⟨hx, hb, hr, hlk, hml, hown, hts, hK, hX, hbl, hKx, hL⟩ := B2
  intro H locs x m hR hP hD hS
  obtain ⟨r, y, n, eX, eM, hR2⟩ := rate_bo hR (xs (i + 1)) (xs (i + 2))
  refine lv_aload_n hx hb dL_law_1011 rfl (lv_at hl 1 rfl) ?_
  refine la_arg (pc := 1012) (k := 1) B hl (by omega) hS dL_law_1012 dL_law_1013 dL_law_1014 (by decide) dL_law_1015 dL_law_1016 ?_
  refine la_arg (pc := 1017) (k := 2) B hl (by omega) hS dL_law_1017 dL_law_1018 dL_law_1019 (by decide) dL_law_1020 dL_law_1021 ?_
  refine la_cx (pc := 1022) (rest := []) (As := [.int (xs (i + 1)), .int (xs (i + 2))]) B hl (F6_rate_ck l (xs (i + 1)) (xs (i + 2)) x eX) mi_X6_rate gw_723 rfl ⟨gw_724, gw_725⟩ rfl ⟨Nat.le_of_ble_eq_true rfl, Nat.le_of_ble_eq_true rfl⟩ (Nat.le_of_ble_eq_true rfl) dL_law_1022 hP hD hS rfl (fun H locs hP hD hS => ?_)
  refine lv_aload_n hx hb dL_law_1025 rfl (lv_at hl 2 rfl) ?_
  refine la_arg (pc := 1026) (k := 1) B hl (by omega) hS dL_law_1026 dL_law_1027 dL_law_1028 (by decide) dL_law_1029 dL_law_1030 ?_
  refine la_arg (pc := 1031) (k := 2) B hl (by omega) hS dL_law_1031 dL_law_1032 dL_law_1033 (by decide) dL_law_1034 dL_law_1035 ?_
  refine la_cm (pc := 1036) (rest := [.int r]) (As := [.int (xs (i + 1)), .int (xs (i + 2))]) B hl (F7_rate_ck l (xs (i + 1)) (xs (i + 2)) m eM) mi_X7_rate gw_1106 rfl ⟨gw_1107, gw_1108⟩ rfl ⟨Nat.le_of_ble_eq_true rfl, Nat.le_of_ble_eq_true rfl⟩ (Nat.le_of_ble_eq_true rfl) dL_law_1036 hP hD hS rfl (fun H locs hP hD hS => ?_)
  exact lv_icmp_eq (pc := 1039) (tgt := 1127) hx hb dL_law_1039 (by decide) (fun _ => k H locs _ _ hR2 hP hD hS) (fun z => absurd rfl z)
theorem la_keep (B : lB p s md meth c D cI cZ b L xs adX) (hl : lL lsC b i adX adM) (hi : i + 4 ≤ L) (k : lW p l e s md b below meth c D cI cZ adX adM lsC Q 1127) : lW p l e s md b below meth c D cI cZ adX adM lsC Q 1044 := by
  have B2 := B
  obtain ⟨hx, hb, hr, hlk, hml, hown, hts, hK, hX, hbl, hKx, hL⟩ := B2
  intro H locs x m hR hP hD hS
  obtain ⟨r, y, n, eX, eM, hR2⟩ := keep_bo hR (xs (i + 1))
  refine lv_aload_n hx hb dL_law_1044 rfl (lv_at hl 1 rfl) ?_
  refine la_arg (pc := 1045) (k := 1) B hl (by omega) hS dL_law_1045 dL_law_1046 dL_law_1047 (by decide) dL_law_1048 dL_law_1049 ?_
  refine la_cx (pc := 1050) (rest := []) (As := [.int (xs (i + 1))]) B hl (F6_keep_ck l (xs (i + 1)) x eX) mi_X6_keep gw_756 rfl ⟨gw_757, gw_758⟩ rfl ⟨Nat.le_of_ble_eq_true rfl, Nat.le_of_ble_eq_true rfl⟩ (Nat.le_of_ble_eq_true rfl) dL_law_1050 hP hD hS rfl (fun H locs hP hD hS => ?_)
  refine lv_aload_n hx hb dL_law_1053 rfl (lv_at hl 2 rfl) ?_
  refine la_arg (pc := 1054) (k := 1) B hl (by omega) hS dL_law_1054 dL_law_1055 dL_law_1056 (by decide) dL_law_1057 dL_law_1058 ?_
  refine la_cm (pc := 1059) (rest := [.int r]) (As := [.int (xs (i + 1))]) B hl (F7_keep_ck l (xs (i + 1)) m eM) mi_X7_keep gw_1115 rfl ⟨gw_1116, gw_1117⟩ rfl ⟨Nat.le_of_ble_eq_true rfl, Nat.le_of_ble_eq_true rfl⟩ (Nat.le_of_ble_eq_true rfl) dL_law_1059 hP hD hS rfl (fun H locs hP hD hS => ?_)
  exact lv_icmp_eq (pc := 1062) (tgt := 1127) hx hb dL_law_1062 (by decide) (fun _ => k H locs _ _ hR2 hP hD hS) (fun z => absurd rfl z)
theorem la_back (B : lB p s md meth c D cI cZ b L xs adX) (hl : lL lsC b i adX adM) (hi : i + 4 ≤ L) (k : lW p l e s md b below meth c D cI cZ adX adM lsC Q 1127) : lW p l e s md b below meth c D cI cZ adX adM lsC Q 1067 := by
  have B2 := B
  obtain ⟨hx, hb, hr, hlk, hml, hown, hts, hK, hX, hbl, hKx, hL⟩ := B2
  intro H locs x m hR hP hD hS
  obtain ⟨r, y, n, eX, eM, hR2⟩ := back_bo hR (xs (i + 1))
  refine lv_aload_n hx hb dL_law_1067 rfl (lv_at hl 1 rfl) ?_
  refine la_arg (pc := 1068) (k := 1) B hl (by omega) hS dL_law_1068 dL_law_1069 dL_law_1070 (by decide) dL_law_1071 dL_law_1072 ?_
  refine la_cx (pc := 1073) (rest := []) (As := [.int (xs (i + 1))]) B hl (F6_back_ck l (xs (i + 1)) x eX) mi_X6_back gw_769 rfl ⟨gw_770, gw_771⟩ rfl ⟨Nat.le_of_ble_eq_true rfl, Nat.le_of_ble_eq_true rfl⟩ (Nat.le_of_ble_eq_true rfl) dL_law_1073 hP hD hS rfl (fun H locs hP hD hS => ?_)
  refine lv_aload_n hx hb dL_law_1076 rfl (lv_at hl 2 rfl) ?_
  refine la_arg (pc := 1077) (k := 1) B hl (by omega) hS dL_law_1077 dL_law_1078 dL_law_1079 (by decide) dL_law_1080 dL_law_1081 ?_
  refine la_cm (pc := 1082) (rest := [.int r]) (As := [.int (xs (i + 1))]) B hl (F7_back_ck l (xs (i + 1)) m eM) mi_X7_back gw_1119 rfl ⟨gw_1120, gw_1121⟩ rfl ⟨Nat.le_of_ble_eq_true rfl, Nat.le_of_ble_eq_true rfl⟩ (Nat.le_of_ble_eq_true rfl) dL_law_1082 hP hD hS rfl (fun H locs hP hD hS => ?_)
  exact lv_icmp_eq (pc := 1085) (tgt := 1127) hx hb dL_law_1085 (by decide) (fun _ => k H locs _ _ hR2 hP hD hS) (fun z => absurd rfl z)
theorem la_count (B : lB p s md meth c D cI cZ b L xs adX) (hl : lL lsC b i adX adM) (hi : i + 4 ≤ L) (k : lW p l e s md b below meth c D cI cZ adX adM lsC Q 1127) : lW p l e s md b below meth c D cI cZ adX adM lsC Q 1090 := by
  have B2 := B
  obtain ⟨hx, hb, hr, hlk, hml, hown, hts, hK, hX, hbl, hKx, hL⟩ := B2
  intro H locs x m hR hP hD hS
  obtain ⟨r, y, n, eX, eM, hR2⟩ := count_bo hR (xs (i + 1))
  refine lv_aload_n hx hb dL_law_1090 rfl (lv_at hl 1 rfl) ?_
  refine la_arg (pc := 1091) (k := 1) B hl (by omega) hS dL_law_1091 dL_law_1092 dL_law_1093 (by decide) dL_law_1094 dL_law_1095 ?_
  refine la_cx (pc := 1096) (rest := []) (As := [.int (xs (i + 1))]) B hl (F6_count_ck l (xs (i + 1)) x eX) mi_X6_count gw_773 rfl ⟨gw_774, gw_775⟩ rfl ⟨Nat.le_of_ble_eq_true rfl, Nat.le_of_ble_eq_true rfl⟩ (Nat.le_of_ble_eq_true rfl) dL_law_1096 hP hD hS rfl (fun H locs hP hD hS => ?_)
  refine lv_aload_n hx hb dL_law_1099 rfl (lv_at hl 2 rfl) ?_
  refine la_arg (pc := 1100) (k := 1) B hl (by omega) hS dL_law_1100 dL_law_1101 dL_law_1102 (by decide) dL_law_1103 dL_law_1104 ?_
  refine la_cm (pc := 1105) (rest := [.int r]) (As := [.int (xs (i + 1))]) B hl (F7_count_ck l (xs (i + 1)) m eM) mi_X7_count gw_1123 rfl ⟨gw_1124, gw_1125⟩ rfl ⟨Nat.le_of_ble_eq_true rfl, Nat.le_of_ble_eq_true rfl⟩ (Nat.le_of_ble_eq_true rfl) dL_law_1105 hP hD hS rfl (fun H locs hP hD hS => ?_)
  exact lv_icmp_eq (pc := 1108) (tgt := 1127) hx hb dL_law_1108 (by decide) (fun _ => k H locs _ _ hR2 hP hD hS) (fun z => absurd rfl z)
theorem la_trace (B : lB p s md meth c D cI cZ b L xs adX) (hl : lL lsC b i adX adM) (hi : i + 4 ≤ L) (k : lW p l e s md b below meth c D cI cZ adX adM lsC Q 1127) : lW p l e s md b below meth c D cI cZ adX adM lsC Q 1113 := by
  have B2 := B
  obtain ⟨hx, hb, hr, hlk, hml, hown, hts, hK, hX, hbl, hKx, hL⟩ := B2
  intro H locs x m hR hP hD hS
  obtain ⟨r, y, n, eX, eM, hR2⟩ := trace_bo hR 
  refine lv_aload_n hx hb dL_law_1113 rfl (lv_at hl 1 rfl) ?_
  refine la_cx (pc := 1114) (rest := []) (As := []) B hl (F6_trace_ck l  x eX) mi_X6_trace gw_777 rfl ⟨gw_778, gw_779⟩ rfl ⟨Nat.le_of_ble_eq_true rfl, Nat.le_of_ble_eq_true rfl⟩ (Nat.le_of_ble_eq_true rfl) dL_law_1114 hP hD hS rfl (fun H locs hP hD hS => ?_)
  refine lv_aload_n hx hb dL_law_1117 rfl (lv_at hl 2 rfl) ?_
  refine la_cm (pc := 1118) (rest := [.long r]) (As := []) B hl (F7_trace_ck l  m eM) mi_X7_trace gw_1127 rfl ⟨gw_1128, gw_1129⟩ rfl ⟨Nat.le_of_ble_eq_true rfl, Nat.le_of_ble_eq_true rfl⟩ (Nat.le_of_ble_eq_true rfl) dL_law_1118 hP hD hS rfl (fun H locs hP hD hS => ?_)
  refine W.lcmp (pc := 1121) hx hb dL_law_1121 ?_
  have e0 : lg_cmp r r = 0 := by unfold lg_cmp; rw [if_neg Int64.lt_irrefl, if_pos rfl]
  exact lv_if_eq (pc := 1122) (tgt := 1127) hx hb dL_law_1122 (by decide) (fun _ => k H locs _ _ hR2 hP hD hS) (fun z => absurd e0 z)
end LAWR
