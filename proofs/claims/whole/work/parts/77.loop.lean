/-! THE CLAIM OUT OF ONE WALK OF THE LAW'S BODY. Your part is whole_start (and what it stands on); all else here is the same for every law, but numbers. -/
def R_law : String := "StarChartLaw"
def lw_P (b : Addr) (xs : List Int32) (args : Array Value) (s : State) : Prop := args = #[.ref b] ∧ s.IntsAt b xs ∧ xs.length ≤ 2048 ∧ (Jvm.Cond.and given_1 narrow_1).before args s = true
def lw_Q (_ : Array Value) (s : State) (o : Outcome) (t : State) : Prop := o = .returned (some (.int 1)) ∧ Framed s o t [] 63 2349
def lw_Z (below : List Frame) (a : Array Value) (s : State) : State → Prop := fun t => ∃ o, t.status = .running ∧ Ended t below o ∧ lw_Q a s o t
/-- the law's own end, with 1 on the stack, nothing written that was there before, its room as the claim has it -/
theorem lw_ret {p : Program} {l : Launch} {e : Env} {s : State} {m : MethodId} {below : List Frame} {meth : Method} {c : Code} {b : Nat} (hx : p.tables.exec = Jvm.exec) (hb : c.code = code) (hr : meth.sig.returnType = ret) (hlocks : meth.locks = false) {pc : Nat} {H : Heap} {ls : Array Slot} (hdg : decode code pc = .ok (.ireturn, 1)) : W p l e room_1 s m #[Value.ref b] below meth c H [] 63 2349 (lw_Z below #[Value.ref b] s) (F0 m pc ls [.int 1]) := by
  intro T hT X
  obtain ⟨fs, hret, hrun, hended, hW, hframe⟩ := X.leave (v := some (.int 1)) (hlocks := hlocks) (fun h => by rw [hr] at h; cases h)
  have hmeth' : T.vm.method? m = some meth := X.method'
  refine ⟨T.setFrames fs, ?_, .returned (some (.int 1)), hrun, hended, rfl, ⟨_, rfl⟩, hW, hframe⟩
  jvm_step X.here [X.here.top, hx, hb, hdg, hmeth', hr, ret, narrow_b1]
  (try refine ⟨rfl, ?_⟩); (try refine ⟨rfl, ?_⟩)
  first | (intro acts; rw [hret _ acts rfl rfl rfl]) | rw [hret _ _ rfl rfl rfl]
  exact Steps.refl _
/-- what holds at the law's entry: the machine, the code, the tables' words (any of lw_tbl by 'hts w (by decide +kernel)'), the script of L ints xs at the cell b, what the Statement gives of the start (any of its parts by flat_of_before) -/
def lw_At (p : Program) (s : State) (m : MethodId) (meth : Method) (c : Code) (b L : Nat) (xs : Nat → Int32) : Prop :=
  p.tables.exec = Jvm.exec ∧ c.code = code ∧ meth.sig.returnType = ret ∧ c.maxLocals = 4 ∧ s.vm.findClass R_law = some m.cls ∧ (∀ w ∈ lw_tbl, w.before #[Value.ref b] s = true) ∧ va_X b L xs s s.heap ∧ b < s.heap.size ∧ meth.locks = false ∧ (Jvm.Cond.and given_1 narrow_1).before #[Value.ref b] s = true
section LOOP
variable {p : Program} {l : Launch} {e : Env} {s : State} {md : MethodId} {below : List Frame} {meth : Method} {c : Code} {D : va_G} {cI cZ : ClassId} {b L i : Nat} {xs : Nat → Int32} {adX adM : Nat → Nat} {lsC : Array Slot} {Q : State → Prop}
set_option maxHeartbeats 2000000 in
theorem la_switch (B : lB p s md meth c D cI cZ b L xs adX) (hl : lL lsC b i adX adM) (hi : i + 4 ≤ L) (k : lW p l e s md b below meth c D cI cZ adX adM lsC Q 1127) : lW p l e s md b below meth c D cI cZ adX adM lsC Q 26 := by
  have B2 := B
  obtain ⟨hx, hb, hr, hlk, hml, hown, hts, hK, hX, hbl, hKx, hL⟩ := B2
  intro H locs x m hR hP hD hS
  refine lv_aload_n hx hb dL_law_26 rfl (lv_at hl 0 rfl) ?_
  refine lv_iload_n hx hb dL_law_27 rfl (lv_at hl 3 rfl) ?_
  refine va_sld hx hb hX hbl (Nat.not_le.mpr hbl) hS (vp_in_nI (show i < L by omega) (by omega)) dL_law_28 ?_
  refine lv_bipush (v := 63) hx hb dL_law_29 (by decide) ?_
  refine lv_iand hx hb dL_law_31 ?_
  generalize (xs (nI i).toNatClampNeg &&& 63) = w
  rcases pk_ix w (n := 34) (by omega) with q | q | ⟨j, hj, rfl⟩
  · refine lv_tableOut (pc := 32) (tgt := 1127) hx hb dL_law_32 (Or.inl ?_) (by decide) (k H locs x m hR hP hD hS)
    have := Int32.lt_iff_toInt_lt.mp q
    rw [Int32.toInt_zero] at this
    exact this
  · refine lv_tableOut (pc := 32) (tgt := 1127) hx hb dL_law_32 (Or.inr ?_) (by decide) (k H locs x m hR hP hD hS)
    have := Int32.le_iff_toInt_le.mp q
    rw [nI_toInt (by omega)] at this
    omega
  · rcases (show j = 0 ∨ j = 1 ∨ j = 2 ∨ j = 3 ∨ j = 4 ∨ j = 5 ∨ j = 6 ∨ j = 7 ∨ j = 8 ∨ j = 9 ∨ j = 10 ∨ j = 11 ∨ j = 12 ∨ j = 13 ∨ j = 14 ∨ j = 15 ∨ j = 16 ∨ j = 17 ∨ j = 18 ∨ j = 19 ∨ j = 20 ∨ j = 21 ∨ j = 22 ∨ j = 23 ∨ j = 24 ∨ j = 25 ∨ j = 26 ∨ j = 27 ∨ j = 28 ∨ j = 29 ∨ j = 30 ∨ j = 31 ∨ j = 32 ∨ j = 33 by omega) with rfl | rfl | rfl | rfl | rfl | rfl | rfl | rfl | rfl | rfl | rfl | rfl | rfl | rfl | rfl | rfl | rfl | rfl | rfl | rfl | rfl | rfl | rfl | rfl | rfl | rfl | rfl | rfl | rfl | rfl | rfl | rfl | rfl | rfl
    · exact lv_tableIn (pc := 32) (tgt := 184) (off := 152) hx hb dL_law_32 (by decide) (by decide) (by decide +kernel) (by decide) (la_type B hl hi k H locs x m hR hP hD hS)
    · exact lv_tableIn (pc := 32) (tgt := 247) (off := 215) hx hb dL_law_32 (by decide) (by decide) (by decide +kernel) (by decide) (la_clear B hl hi k H locs x m hR hP hD hS)
    · exact lv_tableIn (pc := 32) (tgt := 260) (off := 228) hx hb dL_law_32 (by decide) (by decide) (by decide +kernel) (by decide) (la_chart B hl hi k H locs x m hR hP hD hS)
    · exact lv_tableIn (pc := 32) (tgt := 273) (off := 241) hx hb dL_law_32 (by decide) (by decide) (by decide +kernel) (by decide) (la_child B hl hi k H locs x m hR hP hD hS)
    · exact lv_tableIn (pc := 32) (tgt := 306) (off := 274) hx hb dL_law_32 (by decide) (by decide) (by decide +kernel) (by decide) (la_book B hl hi k H locs x m hR hP hD hS)
    · exact lv_tableIn (pc := 32) (tgt := 339) (off := 307) hx hb dL_law_32 (by decide) (by decide) (by decide +kernel) (by decide) (la_plan B hl hi k H locs x m hR hP hD hS)
    · exact lv_tableIn (pc := 32) (tgt := 362) (off := 330) hx hb dL_law_32 (by decide) (by decide) (by decide +kernel) (by decide) (la_tune B hl hi k H locs x m hR hP hD hS)
    · exact lv_tableIn (pc := 32) (tgt := 395) (off := 363) hx hb dL_law_32 (by decide) (by decide) (by decide +kernel) (by decide) (la_given B hl hi k H locs x m hR hP hD hS)
    · exact lv_tableIn (pc := 32) (tgt := 428) (off := 396) hx hb dL_law_32 (by decide) (by decide) (by decide +kernel) (by decide) (la_want B hl hi k H locs x m hR hP hD hS)
    · exact lv_tableIn (pc := 32) (tgt := 471) (off := 439) hx hb dL_law_32 (by decide) (by decide) (by decide +kernel) (by decide) (la_choice B hl hi k H locs x m hR hP hD hS)
    · exact lv_tableIn (pc := 32) (tgt := 494) (off := 462) hx hb dL_law_32 (by decide) (by decide) (by decide +kernel) (by decide) (la_go B hl hi k H locs x m hR hP hD hS)
    · exact lv_tableIn (pc := 32) (tgt := 517) (off := 485) hx hb dL_law_32 (by decide) (by decide) (by decide +kernel) (by decide) (la_now B hl hi k H locs x m hR hP hD hS)
    · exact lv_tableIn (pc := 32) (tgt := 540) (off := 508) hx hb dL_law_32 (by decide) (by decide) (by decide +kernel) (by decide) (la_anew B hl hi k H locs x m hR hP hD hS)
    · exact lv_tableIn (pc := 32) (tgt := 553) (off := 521) hx hb dL_law_32 (by decide) (by decide) (by decide +kernel) (by decide) (la_term B hl hi k H locs x m hR hP hD hS)
    · exact lv_tableIn (pc := 32) (tgt := 576) (off := 544) hx hb dL_law_32 (by decide) (by decide) (by decide +kernel) (by decide) (la_end B hl hi k H locs x m hR hP hD hS)
    · exact lv_tableIn (pc := 32) (tgt := 599) (off := 567) hx hb dL_law_32 (by decide) (by decide) (by decide +kernel) (by decide) (la_best B hl hi k H locs x m hR hP hD hS)
    · exact lv_tableIn (pc := 32) (tgt := 642) (off := 610) hx hb dL_law_32 (by decide) (by decide) (by decide +kernel) (by decide) (la_line B hl hi k H locs x m hR hP hD hS)
    · exact lv_tableIn (pc := 32) (tgt := 685) (off := 653) hx hb dL_law_32 (by decide) (by decide) (by decide +kernel) (by decide) (la_ending B hl hi k H locs x m hR hP hD hS)
    · exact lv_tableIn (pc := 32) (tgt := 708) (off := 676) hx hb dL_law_32 (by decide) (by decide) (by decide +kernel) (by decide) (la_easy B hl hi k H locs x m hR hP hD hS)
    · exact lv_tableIn (pc := 32) (tgt := 721) (off := 689) hx hb dL_law_32 (by decide) (by decide) (by decide +kernel) (by decide) (la_stays B hl hi k H locs x m hR hP hD hS)
    · exact lv_tableIn (pc := 32) (tgt := 754) (off := 722) hx hb dL_law_32 (by decide) (by decide) (by decide +kernel) (by decide) (la_rests B hl hi k H locs x m hR hP hD hS)
    · exact lv_tableIn (pc := 32) (tgt := 797) (off := 765) hx hb dL_law_32 (by decide) (by decide) (by decide +kernel) (by decide) (la_blamed B hl hi k H locs x m hR hP hD hS)
    · exact lv_tableIn (pc := 32) (tgt := 830) (off := 798) hx hb dL_law_32 (by decide) (by decide) (by decide +kernel) (by decide) (la_checks B hl hi k H locs x m hR hP hD hS)
    · exact lv_tableIn (pc := 32) (tgt := 853) (off := 821) hx hb dL_law_32 (by decide) (by decide) (by decide +kernel) (by decide) (la_trial B hl hi k H locs x m hR hP hD hS)
    · exact lv_tableIn (pc := 32) (tgt := 886) (off := 854) hx hb dL_law_32 (by decide) (by decide) (by decide +kernel) (by decide) (la_joined B hl hi k H locs x m hR hP hD hS)
    · exact lv_tableIn (pc := 32) (tgt := 919) (off := 887) hx hb dL_law_32 (by decide) (by decide) (by decide +kernel) (by decide) (la_parts B hl hi k H locs x m hR hP hD hS)
    · exact lv_tableIn (pc := 32) (tgt := 932) (off := 900) hx hb dL_law_32 (by decide) (by decide) (by decide +kernel) (by decide) (la_ahead B hl hi k H locs x m hR hP hD hS)
    · exact lv_tableIn (pc := 32) (tgt := 965) (off := 933) hx hb dL_law_32 (by decide) (by decide) (by decide +kernel) (by decide) (la_halves B hl hi k H locs x m hR hP hD hS)
    · exact lv_tableIn (pc := 32) (tgt := 988) (off := 956) hx hb dL_law_32 (by decide) (by decide) (by decide +kernel) (by decide) (la_lot B hl hi k H locs x m hR hP hD hS)
    · exact lv_tableIn (pc := 32) (tgt := 1011) (off := 979) hx hb dL_law_32 (by decide) (by decide) (by decide +kernel) (by decide) (la_rate B hl hi k H locs x m hR hP hD hS)
    · exact lv_tableIn (pc := 32) (tgt := 1044) (off := 1012) hx hb dL_law_32 (by decide) (by decide) (by decide +kernel) (by decide) (la_keep B hl hi k H locs x m hR hP hD hS)
    · exact lv_tableIn (pc := 32) (tgt := 1067) (off := 1035) hx hb dL_law_32 (by decide) (by decide) (by decide +kernel) (by decide) (la_back B hl hi k H locs x m hR hP hD hS)
    · exact lv_tableIn (pc := 32) (tgt := 1090) (off := 1058) hx hb dL_law_32 (by decide) (by decide) (by decide +kernel) (by decide) (la_count B hl hi k H locs x m hR hP hD hS)
    · exact lv_tableIn (pc := 32) (tgt := 1113) (off := 1081) hx hb dL_law_32 (by decide) (by decide) (by decide +kernel) (by decide) (la_trace B hl hi k H locs x m hR hP hD hS)
theorem la_len {L i : Nat} (hL : L ≤ 2048) (hi : i ≤ 4000) (h : ¬ nI L - 4 < nI i) : i + 4 ≤ L := by
  rcases Nat.lt_or_ge L (i + 4) with q | q
  · exfalso
    apply h
    rcases Nat.lt_or_ge L 4 with z | z
    · have hl : nI L - 4 < 0 := by
        rcases (show L = 0 ∨ L = 1 ∨ L = 2 ∨ L = 3 by omega) with rfl | rfl | rfl | rfl <;> decide
      exact Int32.lt_of_lt_of_le hl (nI_pos' (by omega))
    · rw [show (4 : Int32) = nI 4 from by decide, pk_sub z]
      exact nI_lt (by omega) (by omega)
  · exact q
theorem la_loop (B : lB p s md meth c D cI cZ b L xs adX) (hr2 : meth.sig.returnType = ret) : ∀ (n i : Nat) (lsC : Array Slot), L < i + n → i ≤ 4000 → lL lsC b i adX adM → lW p l e s md b below meth c D cI cZ adX adM lsC (lw_Z below #[Value.ref b] s) 18 := by
  have B2 := B
  obtain ⟨hx, hb, hr, hlk, hml, hown, hts, hK, hX, hbl, hKx, hL⟩ := B2
  intro n
  induction n with
  | zero =>
    intro i lsC h1 h2 hl H locs x m hR hP hD hS
    refine lv_iload_n hx hb dL_law_18 rfl (lv_at hl 3 rfl) ?_
    refine lv_aload_n hx hb dL_law_19 rfl (lv_at hl 0 rfl) ?_
    refine va_slen hx hb hX hbl (Nat.not_le.mpr hbl) hS dL_law_20 ?_
    refine lv_iconst (v := 4) hx hb dL_law_21 (by decide) ?_
    refine lv_isub hx hb dL_law_22 ?_
    refine lv_icmp_gt (pc := 23) (tgt := 1133) hx hb dL_law_23 (by decide) (fun h => ?_) (fun h => ?_)
    · refine lv_iconst (pc := 1133) (v := 1) hx hb dL_law_1133 (by decide) ?_
      refine va_forget (fun q hq => hS.2.2 q hq) ?_
      exact lw_ret hx hb hr2 hlk dL_law_1134
    · have := la_len hL h2 h
      omega
  | succ n ih =>
    intro i lsC h1 h2 hl H locs x m hR hP hD hS
    refine lv_iload_n hx hb dL_law_18 rfl (lv_at hl 3 rfl) ?_
    refine lv_aload_n hx hb dL_law_19 rfl (lv_at hl 0 rfl) ?_
    refine va_slen hx hb hX hbl (Nat.not_le.mpr hbl) hS dL_law_20 ?_
    refine lv_iconst (v := 4) hx hb dL_law_21 (by decide) ?_
    refine lv_isub hx hb dL_law_22 ?_
    refine lv_icmp_gt (pc := 23) (tgt := 1133) hx hb dL_law_23 (by decide) (fun h => ?_) (fun h => ?_)
    · refine lv_iconst (pc := 1133) (v := 1) hx hb dL_law_1133 (by decide) ?_
      refine va_forget (fun q hq => hS.2.2 q hq) ?_
      exact lw_ret hx hb hr2 hlk dL_law_1134
    · have hi := la_len hL h2 h
      refine la_switch B hl hi (fun H locs x m hR hP hD hS => ?_) H locs x m hR hP hD hS
      refine lv_iinc (pc := 1127) (v := nI (i + 4)) (lv' := [(3, .int (nI (i + 4))), (0, .ref b), (1, .ref (adX 0)), (2, .ref (adM 0))]) hx hb dL_law_1127 hl (k := 3) rfl (by rw [show Int32.ofInt 4 = nI 4 from by decide, nI_add]) (by decide) rfl (fun ls hl => ?_)
      refine lv_goto (pc := 1130) (tgt := 18) hx hb dL_law_1130 (by decide) ?_
      exact ih (i + 4) ls (by omega) (by omega) (lv_sub hl [1, 2, 3, 0] rfl) H locs x m hR hP hD hS
end LOOP
section LNEW
variable {p : Program} {l : Launch} {e : Env} {R : Room} {s : State} {m : MethodId} {args : Array Value} {below : List Frame} {meth : Method} {c : Code} {D : va_G} {cI cZ : ClassId} {A : Nat → Prop} {Q : State → Prop} {own : String} {cc : ByteArray} {pc nL : Nat} {cells slots : Nat} {ls : Array Slot} {wr : va_W}
/-- a new object whose constructor is public -/
theorem la_new {idx idx2 ci N f L mc ms : Nat} {T : u_T} {ty : Nat → FieldType} {C : String} {y : MethodName} {cc9 : ByteArray} {fs : List Value} {sh : List sx_H} {K0 : (Nat → Nat) → (Nat → Prop) → State → Heap → Prop} {q : SQ} {ad0 : Nat → Nat} {H : Heap} {locs : List Loc} (KS : sx_KS K0) (hx : p.tables.exec = Jvm.exec) (hb : c.code = cc) (hml : c.maxLocals = nL) (hown : s.vm.findClass own = some m.cls) (hts : ∀ w ∈ GG, w.before args s = true) (hK : va_K D vwCl (tfM cI cZ) s) (hA : ∀ a, s.heap.size ≤ a → A a) (hN : ∀ w ∈ sx_nests, va_Nw w s) (hlsz : ls.size = nL) (hKx : K0 ad0 A s s.heap)
    (ig : IG l y cc9 f L mc ms ci fs sh K0 q) (mi : yMI y cc9) (hy : y.cls = C) (cb : sx_CB vwCl ci C T N ty) (hfs : ∀ j, j < N → defaultValue (ty j) = vp_V fs j) (hcl : Cond.classLink own idx C ∈ GG) (hinst : Cond.instantiable C N ∈ GG) (hln : Cond.methodLink own idx2 y ∈ GG) (d1 : decode cc pc = .ok (.new idx, 3)) (d2 : decode cc (pc + 3) = .ok (.dup, 1)) (d3 : decode cc (pc + 4) = .ok (.invokespecial idx2, 3)) (hR : cells + 1 + mc ≤ R.cells ∧ slots + N + ms ≤ R.slots) (hR2 : f + 1 ≤ R.frames ∧ 8 + (1 + 11) + L ≤ R.locals) (hP : va_P D vwCl wr H) (hD : va_D A wr) (hS : va_S A s.heap H locs)
    (kk : ∀ (ad : Nat → Nat) (H1 : Heap) (locs1 : List Loc), (∀ k, 1000 ≤ k → ad k = ad0 k) → va_P D vwCl (wr ++ sx_cw sh cI cZ ad q) H1 → va_D A (wr ++ sx_cw sh cI cZ ad q) → va_S A s.heap H1 locs1 → W p l e R s m args below meth c H1 locs1 (cells + 1 + mc) (slots + N + ms) Q (F0 m (pc + 7) ls [.ref (ad 0)])) : W p l e R s m args below meth c H locs cells slots Q (F0 m pc ls []) := by
  subst hy
  refine va_new (ci := ci) (fs := fs) hx hb hts cb.2.1 ty cb.2.2.1 hown (hts _ hcl) (hts _ hinst) (hts _ mi.2.2.2.2.1) hK hP hD hS hA cb.1 hfs (by omega) (by omega) d1 (fun a H1 hP1 hD1 hS1 => ?_)
  refine lv_dup hx hb d2 rfl ?_
  have hsub : ∀ x, va_A [(a, .inr (ci, fs))] H1.size x → A x := by
    intro x ha
    rcases ha with ⟨i, e9, h9⟩ | h9
    · have hi : i = 0 := by
        have := (List.getElem?_eq_some_iff.mp h9).1
        simp at this
        exact this
      subst hi
      have h9' : (a, (Sum.inr (ci, fs) : va_E)) = (x, e9) := Option.some.inj h9
      rw [← (Prod.mk.inj h9').1]
      exact hD1.2 wr.length (a, .inr (ci, fs)) (by rw [List.getElem?_append_right (Nat.le_refl _), Nat.sub_self]; rfl)
    · exact hA x (Nat.le_trans hS1.1 h9)
  have hPc : va_P D vwCl [(a, .inr (ci, fs))] H1 := fun i x hx9 => hP1 (wr.length + i) x (by rw [List.getElem?_append_right (by omega), Nat.add_sub_cancel_left]; exact hx9)
  have hDc : va_D (fun _ => True) [(a, (.inr (ci, fs) : va_E))] := ⟨fun i j x y hi hj _ => by
    have h1 := (List.getElem?_eq_some_iff.mp hi).1
    have h2 := (List.getElem?_eq_some_iff.mp hj).1
    simp at h1 h2
    omega, fun _ _ _ => trivial⟩
  have hb9 := callB_of (R := R) (own := own) (index := idx2) (mc := mc) (ms := ms) (rm := { frames := f, cells := mc, slots := ms, locals := L }) 0 hts (sx_good (y := y) (cc := cc9) (nL := 1) (ret := none) mi.2.2.2.1) rfl rfl rfl (hts _ mi.2.2.2.2.1) (hts _ hln) mi.2.1 hR2
  refine va_callv (va_runI (As := []) (rest := [.ref a]) ⟨hx, hb, hml, hown, hts⟩ (ig D ad0 cI cZ a H1.size) ⟨hb9, mi.2.2.1, hts _ mi.2.2.2.2.2⟩ ⟨fun x U g mk z => ?_, fun U hU hW => ?_⟩ rfl rfl hlsz rfl (lv_room (Nat.le_of_ble_eq_true rfl)) d3 ⟨hR.1, hR.2⟩) hS1 (fun x _ h => hsub x h) hsub (fun ad t H2 locs2 ht2 hvm hw hB hz1 hk1 hS2 => ?_)
  · obtain ⟨z0, ⟨z1, z2, z3, z4, z5⟩, z6⟩ := z
    exact ⟨z0, ⟨z1, z2, va_K.moved (u := U) (U := U.calling g mk x) (Vm.Alike.refl U.vm) z3, z4, fun w hw => sx_nestW (s := U) (U := U.calling g mk x) (State.WarmedH.refl U) hw (z5 w hw)⟩, KS.1 ad0 _ U (U.calling g mk x) _ (State.WarmedH.refl U) z6⟩
  · refine ⟨rfl, ⟨by rw [hU], by rw [hU]; exact hPc, va_K.moved hW.alike hK, hDc, fun w hw => sx_nestW hW hw (hN w hw)⟩, ?_⟩
    rw [hU]
    exact KS.1 ad0 _ s U H1 hW (KS.2.2 ad0 A _ s H1 hsub (KS.2.1 ad0 A s s.heap H1 hKx (fun x h1 h2 => hS1.2.1 x h1 h2)))
  · obtain ⟨hP3, hK3, hD3⟩ := hB
    rw [ht2] at hP3
    obtain ⟨hP4, hD4⟩ := y_join hP1 hD1 hk1 hsub hP3 hD3
    rw [← show ad 0 = a from hw.1]
    exact kk ad H2 locs2 hw.2 hP4 hD4 hS2
end LNEW
set_option maxHeartbeats 400000 in
set_option maxRecDepth 20000 in
theorem whole_start {p : Program} {e : Env} {s : State} {m : MethodId} {below : List Frame} {meth : Method} {c : Code} (l : Launch) (hflags : l.flags = flags0) {b L : Nat} {xs : Nat → Int32} (hL : L ≤ 2048) (C0 : lw_At p s m meth c b L xs) : W p l e room_1 s m #[Value.ref b] below meth c s.heap [] 0 0 (lw_Z below #[Value.ref b] s) (entryFrame m ([Value.ref b] : List Value).toArray 4) := by
  obtain ⟨hx, hb, hr, hml, hown, hts, hX, hbl, hlocks, hgv⟩ := id C0
  have htg : ∀ w ∈ GG, w.before #[Value.ref b] s = true := fun w hw => hts w (gg_good w hw).1
  obtain ⟨ad0, hKx⟩ := kx_start hgv hts
  obtain ⟨c0, i0, K0⟩ := u_known (C := RX0) (T := TX0) (N := 5) (n := 5) hts inX0 (htg _ gw_180)
  obtain ⟨c1, i1, K1⟩ := u_known (C := RX1) (T := TX1) (N := 3) (n := 3) hts inX1 (htg _ gw_207)
  obtain ⟨c2, i2, K2⟩ := u_known (C := RX2) (T := TX2) (N := 5) (n := 5) hts inX2 (htg _ gw_245)
  obtain ⟨c3, i3, K3⟩ := u_known (C := RX3) (T := TX3) (N := 7) (n := 7) hts inX3 (htg _ gw_148)
  obtain ⟨c4, i4, K4⟩ := u_known (C := RX4) (T := TX4) (N := 12) (n := 12) hts inX4 (htg _ gw_83)
  obtain ⟨c5, i5, K5⟩ := u_known (C := RX5) (T := TX5) (N := 3) (n := 3) hts inX5 (htg _ gw_228)
  obtain ⟨c6, i6, K6⟩ := u_known (C := RX6) (T := TX6) (N := 12) (n := 12) hts inX6 (htg _ gw_75)
  obtain ⟨c7, i7, K7⟩ := u_known (C := RX7) (T := TX7) (N := 20) (n := 20) hts inX7 (htg _ gw_782)
  obtain ⟨D, hKc⟩ : ∃ D : va_G, ∀ (c : Nat) (q : vw_C), vwCl[c]? = some q → u_Kn s q.1 q.2.1 q.2.2 (D.1 c) (D.2 c) := by
    refine ⟨(fun k => [c0, c1, c2, c3, c4, c5, c6, c7].getD k c0, fun k => [i0, i1, i2, i3, i4, i5, i6, i7].getD k i0), fun k q hq => ?_⟩
    match k, hq with
    | 0, hq => cases hq; exact K0
    | 1, hq => cases hq; exact K1
    | 2, hq => cases hq; exact K2
    | 3, hq => cases hq; exact K3
    | 4, hq => cases hq; exact K4
    | 5, hq => cases hq; exact K5
    | 6, hq => cases hq; exact K6
    | 7, hq => cases hq; exact K7
    | k + 8, hq => simp [vwCl] at hq
  obtain ⟨cI, kI, qI, f1, f2, f3⟩ := Cond.arrayClass_spec (htg _ gw_146)
  obtain ⟨cZ, kZ, qZ, g1, g2, g3⟩ := Cond.arrayClass_spec (htg _ gw_860)
  have hK : va_K D vwCl (tfM cI cZ) s := by
    refine ⟨hKc, fun k q hq => ?_⟩
    match k, hq with
    | 0, hq => cases hq; exact ⟨fun n z => ⟨fun k h => (by cases h), kI, f2, qI, f3⟩, f1⟩
    | 1, hq => cases hq; exact ⟨fun n z => ⟨fun k h => (by cases h), kZ, g2, qZ, g3⟩, g1⟩
    | k + 2, hq => simp [tfM] at hq
  have hN : ∀ w ∈ sx_nests, va_Nw w s := hKx.2.2.2.2.2.2.2
  obtain ⟨q4, q5, q1, q2, e4, e5, e1, e2, hRR⟩ := RR_start
  have hS : va_S (fun q : Nat => s.heap.size ≤ q) s.heap s.heap [] := va_S.rf
  have hP : va_P D vwCl [] s.heap := fun k q h => by simp at h
  have hD : va_D (fun q : Nat => s.heap.size ≤ q) [] := ⟨fun i j p q h => by simp at h, fun k q h => by simp at h⟩
  have hl := lv_entry ([.ref b]) (n := 4) (Nat.le_of_ble_eq_true rfl)
  rw [lg_entry_eq]
  generalize (lg_sl ([.ref b]) ++ List.replicate (4 - (lg_sl ([.ref b])).length) Slot.unset).toArray = ls at hl ⊢
  have hl : lv_has ls 4 [(0, .ref b)] := hl
  refine la_new (pc := 0) (A := fun q : Nat => s.heap.size ≤ q) KSX hx hb hml hown htg hK (fun a h => h) hN hl.1 hKx (ig_X6 l e4 e5) mi_X6_init rfl cb_X6 fs0_X6 gw_74 gw_75 gw_76 dL_law_0 dL_law_3 dL_law_4 ⟨Nat.le_of_ble_eq_true rfl, Nat.le_of_ble_eq_true rfl⟩ ⟨Nat.le_of_ble_eq_true rfl, Nat.le_of_ble_eq_true rfl⟩ hP hD hS (fun adX H1 locs1 hadX hP hD hS => ?_)
  rw [List.nil_append] at hP hD
  refine W.widen (k := 52) (n := 1585) (Nat.le_of_ble_eq_true rfl) (Nat.le_of_ble_eq_true rfl) ?_
  refine lv_astore_n (lv' := [(1, .ref (adX 0)), (0, .ref b)]) hx hb dL_law_7 rfl hl (by decide) rfl (fun ls hl => ?_)
  refine la_new (pc := 8) (K0 := KM) (ad0 := ad0) (A := fun q : Nat => s.heap.size ≤ q) KSM hx hb hml hown htg hK (fun a h => h) hN hl.1 trivial (ig_X7 l e1 e2) mi_X7_init rfl cb_X7 fs0_X7 gw_781 gw_782 gw_783 dL_law_8 dL_law_11 dL_law_12 ⟨Nat.le_of_ble_eq_true rfl, Nat.le_of_ble_eq_true rfl⟩ ⟨Nat.le_of_ble_eq_true rfl, Nat.le_of_ble_eq_true rfl⟩ hP hD hS (fun adM H2 locs2 hadM hP hD hS => ?_)
  refine W.widen (k := 63) (n := 2349) (Nat.le_of_ble_eq_true rfl) (Nat.le_of_ble_eq_true rfl) ?_
  refine lv_astore_n (lv' := [(2, .ref (adM 0)), (1, .ref (adX 0)), (0, .ref b)]) hx hb dL_law_15 rfl hl (by decide) rfl (fun ls hl => ?_)
  refine lv_iconst (v := 0) hx hb dL_law_16 (by decide) ?_
  refine lv_istore_n (lv' := [(3, .int 0), (2, .ref (adM 0)), (1, .ref (adX 0)), (0, .ref b)]) hx hb dL_law_17 rfl hl (by decide) rfl (fun ls hl => ?_)
  have B : lB p s m meth c D cI cZ b L xs adX := ⟨hx, hb, hr, hlocks, hml, hown, htg, hK, hX, hbl, hKx.ad hadX, hL⟩
  have hl0 : lL ls b 0 adX adM := by
    unfold lL
    rw [nI_0]
    exact lv_sub hl [3, 2, 1, 0] rfl
  have hlp := la_loop (l := l) (p := p) (e := e) (below := below) (adM := adM) B hr (L + 1) 0 ls (by omega) (by omega) hl0
  exact hlp H2 locs2 q5 q2 hRR hP hD hS
