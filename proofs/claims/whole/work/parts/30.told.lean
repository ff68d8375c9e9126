/-! A COURSE RUN FROM ITS FIRST DAY, ON BOTH SIDES -/
theorem cpy_lt (f g : Nat → Int32) {n c : Nat} (h : c < n) : va_cpy f g 0 0 n c = f c := by
  unfold va_cpy
  rw [if_pos ⟨by omega, by omega⟩, Nat.zero_add, Nat.sub_zero]
section TOLD
variable {x m : SQ}
theorem Xcopy {k r : Nat} {T : Nat → Int32} (h : XT x r T) (hT : okT T) (hk : k + 6 < r ∨ r + 6 < k) : Ev (F4_copyOf k r x) (fun z => XT z.2 k T ∧ Only (fun o => k ≤ o ∧ o ≤ k + 6) x z.2) := by
  have hb : sx_bt (x.1 r 11) = true := by
    rw [h.2.2.2.2.2.1]
    exact sx_bt_of hT.2.2.2.2.2.1
  obtain ⟨x1, x2, x3, x4, x5, x6, x7, x8⟩ := h
  have h40 := hT.nc.2
  have h41 := hT.ns.2
  unfold F4_copyOf F4_schedule
  simp (disch := omega) only [sx_let, Option.bind_some, Option.map_some, gI_def, sx_row_ne, if_pos hb]
  refine Ev.ret ⟨⟨?_, ?_, ?_, ?_, ?_, ?_, fun c hc => ⟨?_, ?_, ?_⟩, fun s hs => ⟨?_, ?_, ?_⟩⟩, ?_⟩
  · simp (disch := omega) only [sA_ne, sx_row, upd_ne, upd_eq]; exact x1
  · simp (disch := omega) only [sA_ne, sx_row, upd_ne, upd_eq]; exact x2
  · simp (disch := omega) only [sA_ne, sx_row, upd_ne, upd_eq]; exact x3
  · simp (disch := omega) only [sA_ne, sx_row, upd_ne, upd_eq]; exact x4
  · simp (disch := omega) only [sA_ne, sx_row, upd_ne, upd_eq]; exact x5
  · simp (disch := omega) only [sA_ne, sx_row, upd_ne, upd_eq]; exact x6
  · simp (disch := omega) only [sA_ne, sA_eq, sx_row_ne, cpy_lt]; exact (x7 c hc).1
  · simp (disch := omega) only [sA_ne, sA_eq, sx_row_ne, cpy_lt]; exact (x7 c hc).2.1
  · simp (disch := omega) only [sA_ne, sA_eq, sx_row_ne, cpy_lt]; exact (x7 c hc).2.2
  · simp (disch := omega) only [sA_ne, sA_eq, sx_row_ne, cpy_lt]; exact (x8 s hs).1
  · simp (disch := omega) only [sA_ne, sA_eq, sx_row_ne, cpy_lt]; exact (x8 s hs).2.1
  · simp (disch := omega) only [sA_ne, sA_eq, sx_row_ne, cpy_lt]; exact (x8 s hs).2.2
  · exact (((((((((((((Only.rf x).sI (by omega)).sI (by omega)).sI (by omega)).sI (by omega)).sI (by omega)).sI (by omega)).sA (by omega)).sA (by omega)).sA (by omega)).sA (by omega)).sA (by omega)).sA (by omega))
theorem px_l4 : (4 : Int32) = nI 4 := by decide
theorem Xnopay {k : Nat} {T : Nat → Int32} (h : XT x k T) (hT : okT T) : Ev (F4_payNothing k x) (fun z => XT z.2 k (bareT T) ∧ Only (fun o => o = k + 6) x z.2) := by
  have h40 := hT.nc.2
  have h41 := hT.ns.2
  unfold F4_payNothing F4_payNothing_2
  refine Ev.loop (fun c s => ∃ y, s = (nI c, y) ∧ (∀ i, i < c → y.1 (k + 6) i = 0) ∧ Only (fun o => o = k + 6) x y) 4 (fun c s hc hI => ?_) (fun s hI => ?_) ⟨x, by rw [nI_0], fun i hi => by omega, Only.rf x⟩ (FU_gt (by omega))
  · obtain ⟨y, rfl, q, hO⟩ := hI
    have e4 : ¬ (4 : Int32) ≤ nI c := by rw [px_l4]; exact nI_ge hc (by omega)
    simp (disch := omega) only [F4_payNothing_2b, if_neg e4, Int32.add_zero, px_m3, px_a3, px_a24, px_a36, px_a42, px_m27, px_p1, px_p2, px_p3, nI_add, nI_clamp, sx_ixN, if_true, Bool.false_eq_true, if_false, sx_let, Option.bind_some, Option.map_some]
    refine Ev.ret (Or.inl ⟨_, rfl, _, rfl, fun i hi => ?_, hO.sI rfl⟩)
    rw [sx_row]
    by_cases e : i = c
    · rw [e, upd_eq]
    · rw [upd_ne _ _ e]
      exact q i (by omega)
  · obtain ⟨y, rfl, q, hO⟩ := hI
    have e4 : (4 : Int32) ≤ nI 4 := by rw [← px_l4]; exact Int32.le_refl _
    simp only [F4_payNothing_2b, if_pos e4]
    refine Ev.ret ⟨_, rfl, ?_, hO⟩
    have E : ∀ o, o ≠ k + 6 → y.1 o = x.1 o := fun o ho => hO.1 o ho
    have e1 : mm_nc (bareT T) = mm_nc T := by unfold mm_nc; rw [bare_ne T (by omega)]
    have e2 : mm_ns (bareT T) = mm_ns T := by unfold mm_ns; rw [bare_ne T (by omega)]
    obtain ⟨x1, x2, x3, x4, x5, x6, x7, x8⟩ := h
    unfold XT
    rw [e1, e2, bare_ne T (j := 40) (by omega), bare_ne T (j := 41) (by omega), bare_ne T (j := 36) (by omega), bare_ne T (j := 37) (by omega), bare_ne T (j := 38) (by omega), bare_ne T (j := 39) (by omega), E k (by omega), E (k + 1) (by omega), E (k + 2) (by omega), E (k + 3) (by omega), E (k + 4) (by omega), E (k + 5) (by omega)]
    refine ⟨x1, x2, x3, x4, x5, x6, fun c hc => ?_, fun s hs => ?_⟩
    · rw [bare_ne T (j := 3 * c) (by omega), bare_ne T (j := 3 * c + 1) (by omega), bare_ne T (j := 3 * c + 2) (by omega)]
      exact x7 c hc
    · rw [bare_ne T (j := 24 + 3 * s) (by omega), bare_ne T (j := 24 + 3 * s + 1) (by omega), bare_pay T (by omega)]
      exact ⟨(x8 s hs).1, (x8 s hs).2.1, q s (by omega)⟩
theorem MdayA {r : Nat} {Y : Nat → Int32} (hr : 3 < r) (hT : okT (m.1 2)) (hY : okS (m.1 2) Y) : F7_goesBy r (sA m r Y) = some ((mm_day (m.1 2) (m.1 0 16) (m.1 3) Y).2, sA m r (mm_day (m.1 2) (m.1 0 16) (m.1 3) Y).1) := by
  have r2 : (sA m r Y).1 2 = m.1 2 := sA_ne _ _ (by omega)
  have r3 : (sA m r Y).1 3 = m.1 3 := sA_ne _ _ (by omega)
  have r0 : (sA m r Y).1 0 = m.1 0 := sA_ne _ _ (by omega)
  have h := Mday (m := sA m r Y) (r := r) hr (by rw [r2]; exact hT) (by rw [r2, sA_eq]; exact hY)
  rw [r2, r3, r0, sA_eq, sA_sA] at h
  exact h
/-- the joy of all at the end of a run of n days -/
def mm_end (T : Nat → Int32) (b : Int32) (U S : Nat → Int32) (n : Nat) : Int32 := mm_sum (fun c => mm_days T b U (mm_begin T S) n (3 + 3 * c)) (mm_nc T)
theorem MendOn {d : Nat} (hT : okT (m.1 2)) (hd : d ≤ 99) : F7_endOn (nI d) m = some (mm_end (m.1 2) (m.1 0 16) (m.1 3) (m.1 7) d, sA m 7 (mm_days (m.1 2) (m.1 0 16) (m.1 3) (mm_begin (m.1 2) (m.1 7)) d)) := by
  unfold F7_endOn
  rw [Mbegins (by omega)]
  simp only [Option.bind_some]
  unfold F7_endOn_8
  refine Ev.up (S := fun k => sA m 7 (mm_days (m.1 2) (m.1 0 16) (m.1 3) (mm_begin (m.1 2) (m.1 7)) k)) (N := d) (fun k hk => ?_) ?_ (FU_gt (by omega)) rfl
  · have h0 := days_0 (T := m.1 2) (bare := m.1 0 16) (U := m.1 3) (begin_z (m.1 2) (m.1 7)) k
    have hm := MdayA (m := m) (r := 7) (by omega) hT (days_ok (bare := m.1 0 16) (U := m.1 3) (begin_ok hT (m.1 7)) k)
    simp only [F7_endOn_8b, gI_def, sA_eq, h0, if_neg (nI_ge hk (show d < 2 ^ 31 by omega)), hm, Option.bind_some, mm_days]
  · have h0 := days_0 (T := m.1 2) (bare := m.1 0 16) (U := m.1 3) (begin_z (m.1 2) (m.1 7)) d
    have ha := MallOf (m := sA m 7 (mm_days (m.1 2) (m.1 0 16) (m.1 3) (mm_begin (m.1 2) (m.1 7)) d)) (r := 7) (w := 0) (by rw [sA_ne _ _ (by omega)]; exact hT) (by omega)
    have r2 : (sA m 7 (mm_days (m.1 2) (m.1 0 16) (m.1 3) (mm_begin (m.1 2) (m.1 7)) d)).1 2 = m.1 2 := sA_ne _ _ (by omega)
    rw [r2, sA_eq, nI_0] at ha
    simp only [F7_endOn_8b, gI_def, sA_eq, h0, if_pos (nI_le (Nat.le_refl d) (show d < 2 ^ 31 by omega)), ha, Option.bind_some]
    rfl
/-- the pages of the days A .. n - 1 -/
def mm_span (T : Nat → Int32) (b : Int32) (U S : Nat → Int32) (A : Nat) : Nat → Int32
  | 0 => 0
  | n + 1 => mm_span T b U S A n + (if n < A then 0 else (mm_day T b U (mm_days T b U (mm_begin T S) n)).2)
theorem MpagesBy {A B : Nat} (hT : okT (m.1 2)) (hA : A < 2 ^ 31) (hB : B < 2 ^ 31) : F7_pagesBy (nI A) (nI B) m = some (mm_span (m.1 2) (m.1 0 16) (m.1 3) (m.1 7) A (if B < 99 then B else 99), sA m 7 (mm_days (m.1 2) (m.1 0 16) (m.1 3) (mm_begin (m.1 2) (m.1 7)) (if B < 99 then B else 99))) := by
  obtain ⟨N, hN⟩ : ∃ N, N = if B < 99 then B else 99 := ⟨_, rfl⟩
  rw [← hN]
  have hN2 : N ≤ 99 ∧ N ≤ B ∧ (N = 99 ∨ N = B) := by
    rw [hN]
    split <;> omega
  unfold F7_pagesBy
  rw [Mbegins (by omega)]
  simp only [Option.bind_some]
  unfold F7_pagesBy_10
  refine Ev.up (S := fun k => (mm_span (m.1 2) (m.1 0 16) (m.1 3) (m.1 7) A k, sA m 7 (mm_days (m.1 2) (m.1 0 16) (m.1 3) (mm_begin (m.1 2) (m.1 7)) k))) (N := N) (fun k hk => ?_) ?_ (FU_gt (by omega)) rfl
  · have h0 := days_0 (T := m.1 2) (bare := m.1 0 16) (U := m.1 3) (begin_z (m.1 2) (m.1 7)) k
    have hm := MdayA (m := m) (r := 7) (by omega) hT (days_ok (bare := m.1 0 16) (U := m.1 3) (begin_ok hT (m.1 7)) k)
    have e9 : ¬ (99 : Int32) ≤ nI k := by rw [px_l99]; exact nI_ge (by omega) (by omega)
    simp only [F7_pagesBy_10b, F7_pagesBy_62, gI_def, sA_eq, h0, if_neg (nI_ge (show k < B by omega) hB), if_neg e9, hm, sx_let, Option.bind_some, Option.map_some, mm_days, mm_span]
    by_cases q : k < A
    · rw [if_pos q, if_pos (nI_lt q hA)]
    · rw [if_neg q, if_neg (nI_nlt (by omega) (by omega))]
  · have h0 := days_0 (T := m.1 2) (bare := m.1 0 16) (U := m.1 3) (begin_z (m.1 2) (m.1 7)) N
    simp only [F7_pagesBy_10b, F7_pagesBy_67, gI_def, sA_eq, h0]
    by_cases q : N = B
    · rw [if_pos (nI_le (by omega) (by omega))]
    · have e9 : (99 : Int32) ≤ nI N := by rw [px_l99]; exact nI_le (by omega) (by omega)
      rw [if_neg (nI_ge (by omega) hB), if_pos e9]
/-! the class -/
theorem Xends {d : Nat} {T U : Nat → Int32} (S : Nat → Int32) (h : XT x 41 T) (hT : okT T) (hU : ∀ j, j < 6 → x.1 23 j = U j) (hd : d ≤ 99) : Ev (F6_likingOn (nI d) x) (fun z => z.1 = mm_end T 0 U S d ∧ Only (fun o => 48 ≤ o ∧ o ≤ 51) x z.2) := by
  unfold F6_likingOn
  obtain ⟨⟨u, y⟩, e, hR, hO⟩ := Xbegin S 0 (k := 48) h hT (fun o h1 h2 => by omega)
  rw [e]
  rw [upd_self (begin_0 T S).1] at hR
  simp only [Option.bind_some]
  unfold F6_likingOn_14
  have h40 := hT.nc.2
  refine Ev.loop (fun c s => ∃ y, s = (nI c, y) ∧ XR y 48 (mm_nc T) (mm_days T 0 U (mm_begin T S) c) ∧ Only (fun o => 48 ≤ o ∧ o ≤ 51) x y) d (fun c s hc hI => ?_) (fun s hI => ?_) ⟨y, by rw [nI_0], hR, hO⟩ (FU_gt (by omega))
  · obtain ⟨y, rfl, hR, hO⟩ := hI
    obtain ⟨⟨p, z⟩, q1, q2, q3, q4⟩ := Xpass (U := U) (h.cong (fun o h1 h2 => hO.1 o (by omega))) hR hT (days_ok (begin_ok hT S) c) (fun j hj => by rw [hO.1 23 (by omega)]; exact hU j hj) (fun o h1 h2 => by omega) (by omega)
    simp only [F6_likingOn_14b, if_neg (nI_ge hc (show d < 2 ^ 31 by omega)), q1, sx_let, Option.bind_some, Option.map_some, px_p1]
    exact Ev.ret (Or.inl ⟨_, rfl, _, rfl, q3, hO.tr q4⟩)
  · obtain ⟨y, rfl, hR, hO⟩ := hI
    have e41 : y.1 41 0 = nI (mm_nc T) := by rw [hO.1 41 (by omega), h.1, hT.nc.1]
    simp only [F6_likingOn_14b, if_pos (nI_le (Nat.le_refl d) (show d < 2 ^ 31 by omega)), gI_def, e41, XsumOf h40, sx_let, Option.bind_some, Option.map_some]
    refine Ev.ret ⟨_, rfl, ?_, hO⟩
    exact mm_sum_cong _ (fun c hc => (hR.2.2 c hc).1)
theorem Xbetween {A N : Nat} {T U : Nat → Int32} (S : Nat → Int32) (h : XT x 41 T) (hT : okT T) (hU : ∀ j, j < 6 → x.1 23 j = U j) (hA : A < 2 ^ 31) (hN : N ≤ 99) : Ev (F6_pagesBetween (nI A) (nI N) x) (fun z => z.1 = mm_span T 0 U S A N ∧ Only (fun o => 48 ≤ o ∧ o ≤ 51) x z.2) := by
  unfold F6_pagesBetween
  obtain ⟨⟨u, y⟩, e, hR, hO⟩ := Xbegin S 0 (k := 48) h hT (fun o h1 h2 => by omega)
  rw [e]
  rw [upd_self (begin_0 T S).1] at hR
  simp only [Option.bind_some]
  unfold F6_pagesBetween_17
  refine Ev.loop (fun c s => ∃ y, s = (mm_span T 0 U S A c, nI c, y) ∧ XR y 48 (mm_nc T) (mm_days T 0 U (mm_begin T S) c) ∧ Only (fun o => 48 ≤ o ∧ o ≤ 51) x y) N (fun c s hc hI => ?_) (fun s hI => ?_) ⟨y, by rw [nI_0, mm_span], hR, hO⟩ (FU_gt (by omega))
  · obtain ⟨y, rfl, hR, hO⟩ := hI
    obtain ⟨⟨p, z⟩, q1, q2, q3, q4⟩ := Xpass (U := U) (h.cong (fun o h1 h2 => hO.1 o (by omega))) hR hT (days_ok (begin_ok hT S) c) (fun j hj => by rw [hO.1 23 (by omega)]; exact hU j hj) (fun o h1 h2 => by omega) (by omega)
    simp only [F6_pagesBetween_17b, F6_pagesBetween_51, if_neg (nI_ge hc (show N < 2 ^ 31 by omega)), q1, sx_let, Option.bind_some, Option.map_some, px_p1]
    simp only at q2 q3 q4
    by_cases q : c < A
    · rw [if_pos (nI_lt q hA)]
      exact Ev.ret (Or.inl ⟨_, rfl, z, by rw [mm_span, if_pos q, Int32.add_zero], q3, hO.tr q4⟩)
    · rw [if_neg (nI_nlt (by omega) (by omega))]
      exact Ev.ret (Or.inl ⟨_, rfl, z, by rw [mm_span, if_neg q, q2], q3, hO.tr q4⟩)
  · obtain ⟨y, rfl, hR, hO⟩ := hI
    simp only [F6_pagesBetween_17b, if_pos (nI_le (Nat.le_refl N) (show N < 2 ^ 31 by omega))]
    exact Ev.ret ⟨_, rfl, rfl, hO⟩
end TOLD
