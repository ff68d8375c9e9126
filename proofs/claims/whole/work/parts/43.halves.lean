/-! halves -/
theorem bit_bv (b : BitVec 32) : ((b >>> 16) &&& 1#32) = ((b.sshiftRight 16) &&& 1#32) := by
  apply BitVec.eq_of_getLsbD_eq
  intro i hi
  rw [BitVec.getLsbD_and, BitVec.getLsbD_and]
  by_cases h8 : i < 1
  · have e : (b >>> 16).getLsbD i = (b.sshiftRight 16).getLsbD i := by
      rw [BitVec.getLsbD_ushiftRight, BitVec.getLsbD_sshiftRight]
      rw [if_pos (by omega)]
      have : ¬ 32 ≤ i := by omega
      simp only [this, decide_false, Bool.not_false, Bool.true_and]
    rw [e]
  · have e : (1#32).getLsbD i = false := by
      have e : ∀ i : Fin 32, ¬ i.val < 1 → (1#32).getLsbD i.val = false := by decide
      exact e ⟨i, hi⟩ h8
    rw [e, Bool.and_false, Bool.and_false]
theorem bit_eq (v : Int32) : ((v.toUInt32 >>> ((16 : Int32).toUInt32 &&& Int32.toUInt32 31)).toInt32) &&& (1 : Int32) = (v >>> ((16 : Int32) &&& 31)) &&& (1 : Int32) := by
  apply Int32.toBitVec_inj.mp
  rw [Int32.toBitVec_and, UInt32.toBitVec_toInt32, UInt32.toBitVec_shiftRight, Int32.toBitVec_and, Int32.toBitVec_shiftRight]
  have h1 : v.toUInt32.toBitVec >>> (((16 : Int32).toUInt32 &&& Int32.toUInt32 31).toBitVec % 32#32) = v.toBitVec >>> 16 := congrArg (fun n : Nat => v.toBitVec >>> n) (by decide +kernel : (((16 : Int32).toUInt32 &&& Int32.toUInt32 31).toBitVec % 32#32).toNat = 16)
  have h2 : v.toBitVec.sshiftRight' (((16 : Int32) &&& 31).toBitVec.smod 32#32) = v.toBitVec.sshiftRight 16 := congrArg (fun n : Nat => v.toBitVec.sshiftRight n) (by decide +kernel : ((((16 : Int32) &&& 31)).toBitVec.smod 32#32).toNat = 16)
  generalize v.toUInt32.toBitVec >>> (((16 : Int32).toUInt32 &&& Int32.toUInt32 31).toBitVec % 32) = p at h1 ⊢
  generalize v.toBitVec.sshiftRight' (((16 : Int32) &&& 31).toBitVec.smod 32) = q at h2 ⊢
  rw [h1, h2]
  exact bit_bv _
def mm_off (f : Nat → Int32) (v : Int32) : Nat → Int32
  | 0 => 0
  | c + 1 => mm_off f v c + (if (v >>> (nI c &&& 31)) &&& 1 = 0 then f c else 0)
def mm_pm (f : Nat → Int32) (v : Int32) : Nat → Int32
  | 0 => 0
  | c + 1 => mm_pm f v c + (if (v >>> (nI c &&& 31)) &&& 1 = 1 then f c else 0 - f c)
theorem bit01 (y : Int32) : y &&& 1 = 0 ∨ y &&& 1 = 1 := by
  obtain ⟨j, h, e⟩ := pk_andE y (m := 1) 1 (by decide)
  rw [e]
  rcases (show j = 0 ∨ j = 1 by omega) with rfl | rfl
  · exact Or.inl nI_0
  · exact Or.inr (by decide)
theorem off_pm (f : Nat → Int32) (v : Int32) : ∀ n, mm_sum f n - 2 * mm_off f v n = mm_pm f v n
  | 0 => by rw [mm_sum, mm_off, mm_pm]; decide
  | n + 1 => by
    have ih := off_pm f v n
    rw [mm_sum, mm_off, mm_pm, ← ih]
    generalize mm_sum f n = s
    generalize mm_off f v n = o
    generalize f n = a
    rcases bit01 (v >>> (nI n &&& 31)) with e | e
    · rw [if_pos e, if_neg (by rw [e]; decide)]
      grind
    · rw [if_neg (by rw [e]; decide), if_pos e]
      grind
theorem okT.stake {T : Nat → Int32} (h : okT T) {s : Nat} (hs : s < 8) {v : Int32} (hv : inN v 0 9) : okT (upd T (3 * s + 2) v) := by
  have e1 : mm_nc (upd T (3 * s + 2) v) = mm_nc T := by unfold mm_nc; rw [upd_ne _ _ (by omega)]
  have e2 : mm_ns (upd T (3 * s + 2) v) = mm_ns T := by unfold mm_ns; rw [upd_ne _ _ (by omega)]
  have h1 := h.nc.2
  have h2 := h.ns.2
  unfold okT
  rw [e1, e2, upd_ne _ _ (show 40 ≠ 3 * s + 2 by omega), upd_ne _ _ (show 41 ≠ 3 * s + 2 by omega), upd_ne _ _ (show 36 ≠ 3 * s + 2 by omega), upd_ne _ _ (show 37 ≠ 3 * s + 2 by omega), upd_ne _ _ (show 38 ≠ 3 * s + 2 by omega), upd_ne _ _ (show 39 ≠ 3 * s + 2 by omega)]
  obtain ⟨a1, a2, a3, a4, a5, a6, a7, a8⟩ := h
  refine ⟨a1, a2, a3, a4, a5, a6, fun c hc => ?_, fun k hk => ?_⟩
  · rw [upd_ne _ _ (show 3 * c ≠ 3 * s + 2 by omega), upd_ne _ _ (show 3 * c + 1 ≠ 3 * s + 2 by omega)]
    refine ⟨(a7 c hc).1, (a7 c hc).2.1, ?_⟩
    by_cases q : c = s
    · rw [q, upd_eq]; exact hv
    · rw [upd_ne _ _ (by omega)]; exact (a7 c hc).2.2
  · rw [upd_ne _ _ (show 24 + 3 * k ≠ 3 * s + 2 by omega), upd_ne _ _ (show 24 + 3 * k + 1 ≠ 3 * s + 2 by omega), upd_ne _ _ (show 24 + 3 * k + 2 ≠ 3 * s + 2 by omega)]
    exact a8 k hk
section HALVES
variable {x m : SQ}
theorem XT.stake {k : Nat} {T : Nat → Int32} (h : XT x k T) (hT : okT T) {s : Nat} (hs : s < 8) (v : Int32) : XT (sI x (k + 3) s v) k (upd T (3 * s + 2) v) := by
  have e1 : mm_nc (upd T (3 * s + 2) v) = mm_nc T := by unfold mm_nc; rw [upd_ne _ _ (by omega)]
  have e2 : mm_ns (upd T (3 * s + 2) v) = mm_ns T := by unfold mm_ns; rw [upd_ne _ _ (by omega)]
  have h1 := hT.nc.2
  have h2 := hT.ns.2
  unfold XT
  rw [e1, e2, upd_ne _ _ (show 40 ≠ 3 * s + 2 by omega), upd_ne _ _ (show 41 ≠ 3 * s + 2 by omega), upd_ne _ _ (show 36 ≠ 3 * s + 2 by omega), upd_ne _ _ (show 37 ≠ 3 * s + 2 by omega), upd_ne _ _ (show 38 ≠ 3 * s + 2 by omega), upd_ne _ _ (show 39 ≠ 3 * s + 2 by omega), sx_row_ne _ _ _ (show k ≠ k + 3 by omega), sx_row_ne _ _ _ (show k + 1 ≠ k + 3 by omega), sx_row_ne _ _ _ (show k + 2 ≠ k + 3 by omega), sx_row_ne _ _ _ (show k + 4 ≠ k + 3 by omega), sx_row_ne _ _ _ (show k + 5 ≠ k + 3 by omega), sx_row_ne _ _ _ (show k + 6 ≠ k + 3 by omega), sx_row]
  obtain ⟨x1, x2, x3, x4, x5, x6, x7, x8⟩ := h
  refine ⟨x1, x2, x3, x4, x5, x6, fun c hc => ?_, fun i hi => ?_⟩
  · rw [upd_ne _ _ (show 3 * c ≠ 3 * s + 2 by omega), upd_ne _ _ (show 3 * c + 1 ≠ 3 * s + 2 by omega)]
    refine ⟨(x7 c hc).1, (x7 c hc).2.1, ?_⟩
    by_cases q : c = s
    · rw [q, upd_eq, upd_eq]
    · rw [upd_ne _ _ q, upd_ne _ _ (show 3 * c + 2 ≠ 3 * s + 2 by omega)]
      exact (x7 c hc).2.2
  · rw [upd_ne _ _ (show 24 + 3 * i ≠ 3 * s + 2 by omega), upd_ne _ _ (show 24 + 3 * i + 1 ≠ 3 * s + 2 by omega), upd_ne _ _ (show 24 + 3 * i + 2 ≠ 3 * s + 2 by omega)]
    exact x8 i hi
theorem Xends3 {d : Nat} {T U : Nat → Int32} (S : Nat → Int32) (h : XT x 41 T) (hT : okT T) (hU : ∀ j, j < 6 → x.1 23 j = U j) (hd : d ≤ 99) : Ev (F6_likingOn (nI d) x) (fun z => z.1 = mm_end T 0 U S d ∧ XR z.2 48 (mm_nc T) (mm_days T 0 U (mm_begin T S) d) ∧ Only (fun o => 48 ≤ o ∧ o ≤ 51) x z.2) := by
  unfold F6_likingOn
  obtain ⟨⟨u, y⟩, e, hR, hO⟩ := Xbegin S 0 (k := 48) h hT (fun o h1 h2 => by omega)
  rw [e]
  rw [upd_self (begin_0 T S).1] at hR
  simp only [Option.bind_some]
  unfold F6_likingOn_14
  have h40 := hT.nc.2
  refine Ev.loop (fun c s => ∃ y, s = (nI c, y) ∧ XR y 48 (mm_nc T) (mm_days T 0 U (mm_begin T S) c) ∧ Only (fun o => 48 ≤ o ∧ o ≤ 51) x y) d (fun c s hc hI => ?_) (fun s hI => ?_) ⟨y, by rw [nI_0], hR, hO⟩ (FU_gt (by omega))
  · obtain ⟨y, rfl, hR, hO⟩ := hI
    obtain ⟨⟨p, z⟩, q1, q2, q3, q4⟩ := Xpass (U := U) (h.cong (fun o h1 h2 => hO.1 o (by omega))) hR hT (days_ok (begin_ok hT S) c) (fun j hj => by rw [hO.1 23 (by omega)]; exact hU j hj) (fun o h1 h2 => by omega) (by omega)
    simp only [F6_likingOn_14b, if_neg (nI_ge hc (show d < 2 ^ 31 by omega)), q1, sx_let, Option.bind_some, Option.map_some, px_p1]
    exact Ev.ret (Or.inl ⟨_, rfl, _, rfl, q3, hO.tr q4⟩)
  · obtain ⟨y, rfl, hR, hO⟩ := hI
    have e41 : y.1 41 0 = nI (mm_nc T) := by rw [hO.1 41 (by omega), h.1, hT.nc.1]
    simp only [F6_likingOn_14b, if_pos (nI_le (Nat.le_refl d) (show d < 2 ^ 31 by omega)), gI_def, e41, XsumOf h40, sx_let, Option.bind_some, Option.map_some]
    refine Ev.ret ⟨_, rfl, ?_, hR, hO⟩
    exact mm_sum_cong _ (fun c hc => (hR.2.2 c hc).1)
theorem Xhalf {v X : Int32} {f : Nat → Int32} {n : Nat} (hn : n ≤ 8) (e : x.1 41 0 = nI n) (ef : ∀ c, c < n → x.1 49 c = f c) : F6_halves_106 v X 0 0 x = some (X - 2 * mm_off f v n, x) := by
  unfold F6_halves_106
  refine Ev.up (S := fun c => (mm_off f v c, nI c, x)) (N := n) (fun c hc => ?_) ?_ (FU_gt (by omega)) (by rw [nI_0, mm_off])
  · simp (disch := omega) only [F6_halves_106b, F6_halves_142, gI_def, e, if_neg (nI_ge hc (show n < 2 ^ 31 by omega)), Int32.add_zero, px_m3, px_a3, px_a24, px_a36, px_a42, px_m27, px_p1, px_p2, px_p3, nI_add, nI_clamp, sx_ixN, if_true, Bool.false_eq_true, if_false, ef c hc, sx_let_e, mm_off]
    by_cases q : (v >>> (nI c &&& 31)) &&& 1 = 0
    · rw [if_pos q, if_pos q]
    · rw [if_neg q, if_neg q, Int32.add_zero]
  · simp only [F6_halves_106b, gI_def, e, if_pos (nI_le (Nat.le_refl n) (show n < 2 ^ 31 by omega)), Option.map_some]
theorem Mhalf {v : Int32} {n : Nat} (hn : n ≤ 8) (e : m.1 2 40 = nI n) : F7_halves_137 v 0 0 m = some (mm_pm (fun c => m.1 7 (3 + 3 * c)) v n, sA m 2 (mm_cp (m.1 2) (m.1 8) 42)) := by
  unfold F7_halves_137
  refine Ev.up (S := fun c => (mm_pm (fun c => m.1 7 (3 + 3 * c)) v c, nI c, m)) (N := n) (fun c hc => ?_) ?_ (FU_gt (by omega)) (by rw [nI_0, mm_pm])
  · simp (disch := omega) only [F7_halves_137b, F7_halves_186, gI_def, e, if_neg (nI_ge hc (show n < 2 ^ 31 by omega)), Int32.add_zero, px_m3, px_a3, px_a24, px_a36, px_a42, px_m27, px_p1, px_p2, px_p3, nI_add, nI_clamp, sx_ixN, if_true, Bool.false_eq_true, if_false, sx_let_e, mm_pm]
    by_cases q : (v >>> (nI c &&& 31)) &&& 1 = 1
    · rw [if_pos q, if_pos q]
    · rw [if_neg q, if_neg q]
  · simp only [F7_halves_137b, gI_def, e, if_pos (nI_le (Nat.le_refl n) (show n < 2 ^ 31 by omega)), Maside0, bind_e, Option.map_some]
theorem only_both {P : Nat → Prop} {y : SQ} (h : Only P x y) {o k : Nat} {v : Int32} : Only P (sI x o k v) (sI y o k v) := by
  refine ⟨fun o2 ho => ?_, h.2⟩
  by_cases q : o2 = o
  · rw [q, sx_row, sx_row, h.1 o (by rw [← q]; exact ho)]
  · rw [sx_row_ne _ _ _ q, sx_row_ne _ _ _ q, h.1 o2 ho]
theorem aside_lot (v : Int32) : sA (sI m 4 2 v) 8 (mm_cp ((sI m 4 2 v).1 8) ((sI m 4 2 v).1 2) 42) = sI (sA m 8 (mm_cp (m.1 8) (m.1 2) 42)) 4 2 v := by
  rw [sx_row_ne _ _ _ (show 8 ≠ 4 by omega), sx_row_ne _ _ _ (show 2 ≠ 4 by omega)]
  refine Prod.ext ?_ rfl
  funext o
  by_cases q : o = 8
  · rw [q, sA_eq, sx_row_ne _ _ _ (by omega), sA_eq]
  · by_cases q2 : o = 4
    · rw [q2, sA_ne _ _ (by omega), sx_row, sx_row, sA_ne _ _ (by omega)]
    · rw [sA_ne _ _ q, sx_row_ne _ _ _ q2, sx_row_ne _ _ _ q2, sA_ne _ _ q]
theorem halves_bo (h : RR x m) (v : Int32) : Bo (F6_halves v x) (F7_halves v m) := by
  unfold F7_halves
  simp only [sx_let_e]
  have h := h.t0
  generalize sI m 0 0 0 = m at h ⊢
  have hT := h.1.1
  obtain ⟨e40, h40⟩ := hT.nc
  unfold F6_halves
  simp only [XisDay, MisDay, bind_e]
  rcases wi_lit v (a := 0) (b := 99) (by omega) (by omega) 0 99 rfl rfl with ⟨d, -, hd, rfl, e⟩ | ⟨e, -⟩
  · rw [e]
    obtain ⟨⟨u, y⟩, q1, q2, q3⟩ := Xcopy (k := 41) h.1.2 hT (by omega)
    simp only at q2 q3
    simp only [show ¬ ((1 : Int32) = 0) from by decide, if_false, q1, Maside1, bind_e]
    unfold F6_halves_25 F7_halves_24
    refine Ev2.bo (Ev2.loop (fun k s t => ∃ v2 y2 n2 T1 xk mk, s = (v2, nI k, y2) ∧ t = (v2, nI k, n2) ∧ RR xk mk ∧ mk.1 2 = m.1 2 ∧ XT y2 41 T1 ∧ okT T1 ∧ T1 40 = m.1 2 40 ∧ (∀ j, 42 ≤ j → T1 j = m.1 2 j) ∧ n2.1 2 = T1 ∧ Only (fun o => 37 ≤ o) xk y2 ∧ Only (fun o => o = 2 ∨ o = 7) (sA mk 8 (mm_cp (mk.1 8) (mk.1 2) 42)) n2) (mm_nc (m.1 2)) (fun k s t hk hI => ?_) (fun s t hI => ?_) ⟨0, y, _, m.1 2, x, m, by rw [nI_0], by rw [nI_0], h, rfl, q2, hT, rfl, fun _ _ => rfl, sA_ne _ _ (by omega), q3.mono (fun o ho => by omega), Only.rf _⟩ (FU_gt (by omega)))
    · obtain ⟨v2, y2, n2, T1, xk, mk, rfl, rfl, hR, hm2, hX, hok, h1, hfar, hn, hO, hM⟩ := hI
      have ey : y2.1 41 0 = nI (mm_nc (m.1 2)) := by rw [hX.1, h1, e40]
      have en : n2.1 2 40 = nI (mm_nc (m.1 2)) := by rw [hn, h1, e40]
      have el : y2.1 0 10 = n2.1 4 2 := by rw [hO.1 0 (by omega), hM.1 4 (by omega), sA_ne _ _ (by omega)]; exact hR.2.2.2.2.2.2.1
      obtain ⟨L, hL⟩ : ∃ L, L = n2.1 4 2 * (1103515245 : Int32) + (12345 : Int32) := ⟨_, rfl⟩
      have gy : (sI y2 0 10 L).1 0 10 = L := by rw [sx_row, upd_eq]
      have gn : (sI n2 4 2 L).1 4 2 = L := by rw [sx_row, upd_eq]
      have hR2 := hR.lot L
      have hO2 : Only (fun o => 37 ≤ o) (sI xk 0 10 L) (sI y2 0 10 L) := only_both hO
      have hM2 : Only (fun o => o = 2 ∨ o = 7) (sA (sI mk 4 2 L) 8 (mm_cp ((sI mk 4 2 L).1 8) ((sI mk 4 2 L).1 2) 42)) (sI n2 4 2 L) := by
        rw [aside_lot]
        exact only_both hM
      have hX2 : XT (sI y2 0 10 L) 41 T1 := hX.cong (fun o h1 h2 => sx_row_ne _ _ _ (by omega))
      have hn2 : (sI n2 4 2 L).1 2 = T1 := by rw [sx_row_ne _ _ _ (by omega), hn]
      have hm3 : (sI mk 4 2 L).1 2 = m.1 2 := by rw [sx_row_ne _ _ _ (by omega), hm2]
      simp (disch := omega) only [F6_halves_25b, F6_halves_88, F7_halves_24b, F7_halves_74, F7_halves_89, F7_halves_119, gI_def, ey, en, if_neg (nI_ge hk (show mm_nc (m.1 2) < 2 ^ 31 by omega)), el, ← hL, gy, gn, bit_eq, Int32.add_zero, px_m3, px_a3, px_a24, px_a36, px_a42, px_m27, px_p1, px_p2, px_p3, nI_add, nI_clamp, sx_ixN, if_true, Bool.false_eq_true, if_false, sx_let_e]
      by_cases qb : (L >>> ((16 : Int32) &&& 31)) &&& 1 = 1
      · simp only [if_pos qb, show ¬ ((1 : Int32) = 0) from by decide, if_false]
        refine Ev2.ret ⟨_, _, rfl, rfl, _, _, _, T1, _, _, rfl, rfl, hR2, hm3, hX2, hok, h1, hfar, ?_, hO2, ?_⟩
        · rw [sx_row, hn2, upd_self rfl]
        · exact hM2.sI (by omega)
      · simp only [if_neg qb, if_true, Int32.or_zero]
        refine Ev2.ret ⟨_, _, rfl, rfl, _, _, _, upd T1 (3 * k + 2) 0, _, _, rfl, rfl, hR2, hm3, hX2.stake hok (show k < 8 by omega) 0, hok.stake (by omega) (in_z 9), by rw [upd_ne _ _ (by omega)]; exact h1, fun j hj => by rw [upd_ne _ _ (by omega)]; exact hfar j hj, ?_, hO2.sI (by omega), hM2.sI (by omega)⟩
        rw [sx_row, hn2]
    · obtain ⟨v2, y2, n2, T1, xk, mk, rfl, rfl, hR, hm2, hX, hok, h1, hfar, hn, hO, hM⟩ := hI
      have ey : y2.1 41 0 = nI (mm_nc (m.1 2)) := by rw [hX.1, h1, e40]
      have en : n2.1 2 40 = nI (mm_nc (m.1 2)) := by rw [hn, h1, e40]
      have enc : mm_nc T1 = mm_nc (m.1 2) := by unfold mm_nc; rw [h1]
      have r0 : n2.1 0 16 = 0 := by rw [hM.1 0 (by omega), sA_ne _ _ (by omega)]; exact hR.2.2.2.2.2.2.2.2
      have r3 : n2.1 3 = mk.1 3 := by rw [hM.1 3 (by omega), sA_ne _ _ (by omega)]
      obtain ⟨⟨r, z⟩, w1, w2, w3, w4⟩ := Xends3 (U := n2.1 3) (n2.1 7) hX hok (fun j hj => by rw [hO.1 23 (by omega), r3]; exact hR.2.1 j hj) hd
      simp only at w2 w3 w4
      have hm := MendOn (m := n2) (d := d) (by rw [hn]; exact hok) hd
      rw [hn, r0] at hm
      obtain ⟨Y, hY⟩ : ∃ Y, Y = mm_days T1 0 (n2.1 3) (mm_begin T1 (n2.1 7)) d := ⟨_, rfl⟩
      rw [← hY] at hm w3
      rw [enc] at w3
      have a2 : (sA n2 7 Y).1 2 = T1 := by rw [sA_ne _ _ (by omega), hn]
      have a7 : (sA n2 7 Y).1 7 = Y := sA_eq _ _ _
      have xh := Xhalf (x := z) (v := v2) (X := r) (f := fun c => Y (3 + 3 * c)) h40 (by rw [w4.1 41 (by omega), ey]) (fun c hc => (w3.2.2 c hc).1)
      have mh := Mhalf (m := sA n2 7 Y) (v := v2) h40 (by rw [a2, h1, e40])
      have er : r = mm_sum (fun c => Y (3 + 3 * c)) (mm_nc (m.1 2)) := by rw [w2, mm_end, enc, ← hY]
      rw [er, off_pm] at xh
      rw [a7] at mh
      simp only [F6_halves_25b, F7_halves_24b, gI_def, ey, en, if_pos (nI_le (Nat.le_refl (mm_nc (m.1 2))) (show mm_nc (m.1 2) < 2 ^ 31 by omega)), w1, hm, bind_e, sx_let_e, er, xh, mh, Option.map_some]
      refine Ev2.ret ⟨_, _, rfl, rfl, rfl, (hR.back ((hM.sA (by omega)).mono (fun o ho => by omega)) (fun j => ?_) (fun j hj => ?_)).keepX (hO.tr (w4.mono (fun o ho => by omega)))⟩
      · rw [sA_ne _ _ (by omega), hM.1 0 (by omega), sA_ne _ _ (by omega)]
      · rw [a2, hfar j hj, hm2]
  · rw [e]
    exact Bo.ret h
end HALVES
