/-! stays -/
theorem px_l9 : (9 : Int32) = nI 9 := by decide
theorem px_l10 : (10 : Int32) = nI 10 := by decide
theorem choice_S {T S S2 : Nat → Int32} {b idle day : Int32} {c : Nat} (h : ∀ j, j ≠ 0 → S2 j = S j) : mm_choice T b idle S2 c day = mm_choice T b idle S c day := by
  unfold mm_choice
  refine congrArg _ (ch_cong _ (fun k _ => ?_))
  unfold mm_want mm_joys mm_stars
  rw [h (3 + 3 * c) (by omega), h 1 (by omega)]
theorem okT.spay {T : Nat → Int32} (h : okT T) {s : Nat} (hs : s < 4) {v : Int32} (hv : inN v 0 9) : okT (upd T (24 + 3 * s + 2) v) := by
  have e1 : mm_nc (upd T (24 + 3 * s + 2) v) = mm_nc T := by unfold mm_nc; rw [upd_ne _ _ (by omega)]
  have e2 : mm_ns (upd T (24 + 3 * s + 2) v) = mm_ns T := by unfold mm_ns; rw [upd_ne _ _ (by omega)]
  have h1 := h.nc.2
  have h2 := h.ns.2
  unfold okT
  rw [e1, e2, upd_ne _ _ (show 40 ≠ 24 + 3 * s + 2 by omega), upd_ne _ _ (show 41 ≠ 24 + 3 * s + 2 by omega), upd_ne _ _ (show 36 ≠ 24 + 3 * s + 2 by omega), upd_ne _ _ (show 37 ≠ 24 + 3 * s + 2 by omega), upd_ne _ _ (show 38 ≠ 24 + 3 * s + 2 by omega), upd_ne _ _ (show 39 ≠ 24 + 3 * s + 2 by omega)]
  obtain ⟨a1, a2, a3, a4, a5, a6, a7, a8⟩ := h
  refine ⟨a1, a2, a3, a4, a5, a6, fun c hc => ?_, fun k hk => ?_⟩
  · rw [upd_ne _ _ (show 3 * c ≠ 24 + 3 * s + 2 by omega), upd_ne _ _ (show 3 * c + 1 ≠ 24 + 3 * s + 2 by omega), upd_ne _ _ (show 3 * c + 2 ≠ 24 + 3 * s + 2 by omega)]
    exact a7 c hc
  · rw [upd_ne _ _ (show 24 + 3 * k ≠ 24 + 3 * s + 2 by omega), upd_ne _ _ (show 24 + 3 * k + 1 ≠ 24 + 3 * s + 2 by omega)]
    refine ⟨(a8 k hk).1, (a8 k hk).2.1, ?_⟩
    by_cases q : k = s
    · rw [q, upd_eq]; exact hv
    · rw [upd_ne _ _ (by omega)]; exact (a8 k hk).2.2
section STAYS
variable {x m : SQ}
theorem XT.spay {k : Nat} {T : Nat → Int32} (h : XT x k T) (hT : okT T) {s : Nat} (hs : s < 4) (v : Int32) : XT (sI x (k + 6) s v) k (upd T (24 + 3 * s + 2) v) := by
  have e1 : mm_nc (upd T (24 + 3 * s + 2) v) = mm_nc T := by unfold mm_nc; rw [upd_ne _ _ (by omega)]
  have e2 : mm_ns (upd T (24 + 3 * s + 2) v) = mm_ns T := by unfold mm_ns; rw [upd_ne _ _ (by omega)]
  have h1 := hT.nc.2
  have h2 := hT.ns.2
  unfold XT
  rw [e1, e2, upd_ne _ _ (show 40 ≠ 24 + 3 * s + 2 by omega), upd_ne _ _ (show 41 ≠ 24 + 3 * s + 2 by omega), upd_ne _ _ (show 36 ≠ 24 + 3 * s + 2 by omega), upd_ne _ _ (show 37 ≠ 24 + 3 * s + 2 by omega), upd_ne _ _ (show 38 ≠ 24 + 3 * s + 2 by omega), upd_ne _ _ (show 39 ≠ 24 + 3 * s + 2 by omega), sx_row_ne _ _ _ (show k ≠ k + 6 by omega), sx_row_ne _ _ _ (show k + 1 ≠ k + 6 by omega), sx_row_ne _ _ _ (show k + 2 ≠ k + 6 by omega), sx_row_ne _ _ _ (show k + 3 ≠ k + 6 by omega), sx_row_ne _ _ _ (show k + 4 ≠ k + 6 by omega), sx_row_ne _ _ _ (show k + 5 ≠ k + 6 by omega), sx_row]
  obtain ⟨x1, x2, x3, x4, x5, x6, x7, x8⟩ := h
  refine ⟨x1, x2, x3, x4, x5, x6, fun c hc => ?_, fun i hi => ?_⟩
  · rw [upd_ne _ _ (show 3 * c ≠ 24 + 3 * s + 2 by omega), upd_ne _ _ (show 3 * c + 1 ≠ 24 + 3 * s + 2 by omega), upd_ne _ _ (show 3 * c + 2 ≠ 24 + 3 * s + 2 by omega)]
    exact x7 c hc
  · rw [upd_ne _ _ (show 24 + 3 * i ≠ 24 + 3 * s + 2 by omega), upd_ne _ _ (show 24 + 3 * i + 1 ≠ 24 + 3 * s + 2 by omega)]
    refine ⟨(x8 i hi).1, (x8 i hi).2.1, ?_⟩
    by_cases q : i = s
    · rw [q, upd_eq, upd_eq]
    · rw [upd_ne _ _ q, upd_ne _ _ (show 24 + 3 * i + 2 ≠ 24 + 3 * s + 2 by omega)]
      exact (x8 i hi).2.2
theorem stays_bo (h : RR x m) (v1 v2 : Int32) : Bo (F6_stays v1 v2 x) (F7_stays v1 v2 m) := by
  unfold F7_stays F7_stays_21
  simp only [sx_let_e]
  have h := h.t0
  generalize sI m 0 0 0 = m at h ⊢
  have hT := h.1.1
  have hU := h.2.1
  have h16 := h.2.2.2.2.2.2.2.2
  obtain ⟨e40, h40⟩ := hT.nc
  obtain ⟨e41, h41⟩ := hT.ns
  unfold F6_stays F6_stays_16
  simp only [XisChild, MisChild, XisSort, MisSort, bind_e, h.1.2.1, h.1.2.2.1]
  rcases wi_N v1 (n := mm_nc (m.1 2)) (by omega) _ e40 with ⟨c, hc, rfl, e1⟩ | ⟨e1, -⟩
  · rw [e1]
    simp only [show ¬ ((1 : Int32) = 0) from by decide, if_false]
    rcases wi_N v2 (n := mm_ns (m.1 2)) (by omega) _ e41 with ⟨s, hs, rfl, e2⟩ | ⟨e2, -⟩
    · rw [e2]
      obtain ⟨⟨u, y⟩, q1, q2, q3⟩ := Xcopy (k := 41) h.1.2 hT (by omega)
      simp only at q2 q3
      obtain ⟨⟨u3, y3⟩, p1, p2, p3⟩ := Xbegin (m.1 7) (m.1 2 36) (k := 48) q2 hT (fun o h1 h2 => by omega)
      simp only at p2 p3
      have r7 : (sA m 7 (mm_begin (m.1 2) (m.1 7))).1 2 = m.1 2 := sA_ne _ _ (by omega)
      simp (disch := omega) only [show ¬ ((1 : Int32) = 0) from by decide, if_false, q1, gI_def, q2.2.2.1, p1, Mbegins (show 3 < 7 by omega), bind_e, sx_let_e, Int32.add_zero, px_m3, px_a3, px_a24, px_a36, px_a42, px_m27, px_p1, px_p2, px_p3, nI_add, nI_clamp, sx_ixN, if_true, Bool.false_eq_true, if_false, r7]
      have hXY : XT y3 41 (m.1 2) := q2.cong (fun o h1 h2 => p3.1 o (by omega))
      have hOY : Only (fun o => 37 ≤ o) x y3 := (q3.mono (fun o ho => by omega)).tr (p3.mono (fun o ho => by omega))
      have hp : inN (m.1 2 (24 + 3 * s + 2)) 0 9 := (hT.2.2.2.2.2.2.2 s hs).2.2
      unfold F6_stays_49 F7_stays_55
      refine Ev2.bo (Ev2.loopE (fun k st t => ∃ y2 n2 w, st = (nI k, y2) ∧ t = (-9, nI k, n2) ∧ inN w 0 9 ∧ XT y2 41 (upd (m.1 2) (24 + 3 * s + 2) w) ∧ XR y2 48 (mm_nc (m.1 2)) (upd (mm_begin (m.1 2) (m.1 7)) 0 (m.1 2 36)) ∧ Only (fun o => 37 ≤ o) x y2 ∧ n2.1 2 = upd (m.1 2) (24 + 3 * s + 2) w ∧ Only (fun o => o = 2) (sA m 7 (mm_begin (m.1 2) (m.1 7))) n2) 10 (fun k st t hk hI => ?_) (fun st t hI => ?_) ⟨y3, _, m.1 2 (24 + 3 * s + 2), by rw [nI_0], by rw [nI_0], hp, by rw [upd_self rfl]; exact hXY, p2, hOY, by rw [upd_self rfl, r7], Only.rf _⟩ (FU_gt1 (by omega)))
      · obtain ⟨y2, n2, w, rfl, rfl, hw, hX, hR, hO, hn, hM⟩ := hI
        have f1 : ¬ (9 : Int32) < nI k := by rw [px_l9]; exact nI_nlt (by omega) (by omega)
        have f2 : ¬ (10 : Int32) ≤ nI k := by rw [px_l10]; exact nI_ge hk (by omega)
        have hk9 : inN (nI k) 0 9 := ⟨k, by omega, by omega, rfl⟩
        have hT2 := hT.spay (s := s) (by omega) hk9
        have hX2 : XT (sI y2 47 s (nI k)) 41 (upd (m.1 2) (24 + 3 * s + 2) (nI k)) := by
          have := hX.spay (hT.spay (s := s) (by omega) hw) (s := s) (by omega) (nI k)
          rw [upd_upd] at this
          exact this
        have enc : mm_nc (upd (m.1 2) (24 + 3 * s + 2) (nI k)) = mm_nc (m.1 2) := by unfold mm_nc; rw [upd_ne _ _ (by omega)]
        have hR2 : XR (sI y2 47 s (nI k)) 48 (mm_nc (upd (m.1 2) (24 + 3 * s + 2) (nI k))) (upd (mm_begin (m.1 2) (m.1 7)) 0 (m.1 2 36)) := by
          rw [enc]
          exact hR.cong (fun o h1 h2 => sx_row_ne _ _ _ (by omega))
        have hO2 : Only (fun o => 37 ≤ o) x (sI y2 47 s (nI k)) := hO.sI (by omega)
        have r2 : (sI n2 2 (24 + 3 * s + 2) (nI k)).1 2 = upd (m.1 2) (24 + 3 * s + 2) (nI k) := by rw [sx_row, hn, upd_upd]
        have r0 : (sI n2 2 (24 + 3 * s + 2) (nI k)).1 0 16 = 0 := by rw [sx_row_ne _ _ _ (by omega), hM.1 0 (by omega), sA_ne _ _ (by omega), h16]
        have r3 : (sI n2 2 (24 + 3 * s + 2) (nI k)).1 3 = m.1 3 := by rw [sx_row_ne _ _ _ (by omega), hM.1 3 (by omega), sA_ne _ _ (by omega)]
        have rr : (sI n2 2 (24 + 3 * s + 2) (nI k)).1 7 = mm_begin (m.1 2) (m.1 7) := by rw [sx_row_ne _ _ _ (by omega), hM.1 7 (by omega), sA_eq]
        have hM2 : Only (fun o => o = 2) (sA m 7 (mm_begin (m.1 2) (m.1 7))) (sI n2 2 (24 + 3 * s + 2) (nI k)) := hM.sI rfl
        have hu : (sI y2 47 s (nI k)).1 23 0 = m.1 3 0 := by rw [hO2.1 23 (by omega)]; exact hU 0 (by omega)
        have hx := Xchoice (idle := m.1 3 0) hX2 hR2 hT2 (c := c) (by rw [enc]; exact hc)
        rw [upd_eq, choice_S (S := mm_begin (m.1 2) (m.1 7)) (fun j hj => upd_ne _ _ hj)] at hx
        have hm := Mchoice (m := sI n2 2 (24 + 3 * s + 2) (nI k)) (r := 7) (c := c) (day := m.1 2 36) (by omega) (by rw [r2]; exact hT2)
        rw [r2, r0, r3, rr] at hm
        have r36 : (sI n2 2 (24 + 3 * s + 2) (nI k)).1 2 36 = m.1 2 36 := by rw [r2, upd_ne _ _ (by omega)]
        simp (disch := omega) only [F6_stays_49b, F7_stays_55b, F7_stays_104, if_neg f1, if_neg f2, if_true, Int32.add_zero, px_m3, px_a3, px_a24, px_a36, px_a42, px_m27, px_p1, px_p2, px_p3, nI_add, nI_clamp, sx_ixN, if_true, Bool.false_eq_true, if_false, gI_def, hu, hx, r36, hm, sx_let_e, bind_e]
        by_cases q : mm_choice (upd (m.1 2) (24 + 3 * s + 2) (nI k)) 0 (m.1 3 0) (mm_begin (m.1 2) (m.1 7)) c (m.1 2 36) = nI s
        · simp only [if_pos q]
          refine Ev2.ret (Or.inr ⟨_, _, (nI k, sI (sI n2 2 (24 + 3 * s + 2) (nI k)) 2 (24 + 3 * s + 2) (m.1 2 (24 + 3 * s + 2))), rfl, rfl, ?_, rfl, ?_⟩)
          · simp (disch := omega) only [F7_stays_55b, F7_stays_112, if_neg (nI_ne9 (show k < 2 ^ 31 by omega)), Int32.add_zero, px_m3, px_a3, px_a24, px_a36, px_a42, px_m27, px_p1, px_p2, px_p3, nI_add, nI_clamp, sx_ixN, if_true, Bool.false_eq_true, if_false, sx_let_e, Option.map_some, ite_self]
          · refine RR.keepX (RR.keepM h (fun o a b c => ?_) ?_ ?_ ?_ hM2.2) hO2
            · by_cases q2 : o = 2
              · rw [q2, sx_row, r2, upd_upd, upd_self rfl]
              · rw [sx_row_ne _ _ _ q2, hM2.1 o q2, sA_ne _ _ b]
            · rw [sx_row_ne _ _ _ (by omega), hM2.1 0 (by omega), sA_ne _ _ (by omega)]
            · rw [sx_row_ne _ _ _ (by omega), r0]
            · rw [sx_row_ne _ _ _ (by omega), hM2.1 0 (by omega), sA_ne _ _ (by omega)]
        · simp only [if_neg q]
          exact Ev2.ret (Or.inl ⟨_, _, rfl, rfl, _, _, nI k, rfl, rfl, hk9, hX2, by rw [← enc]; exact hR2, hO2, r2, hM2⟩)
      · obtain ⟨y2, n2, w, rfl, rfl, hw, hX, hR, hO, hn, hM⟩ := hI
        have f1 : (9 : Int32) < nI 10 := by decide
        have f2 : (10 : Int32) ≤ nI 10 := by decide
        simp (disch := omega) only [F6_stays_49b, F7_stays_55b, F7_stays_112, if_pos f1, if_pos f2, Int32.add_zero, px_m3, px_a3, px_a24, px_a36, px_a42, px_m27, px_p1, px_p2, px_p3, nI_add, nI_clamp, sx_ixN, if_true, Bool.false_eq_true, if_false, sx_let_e, Option.map_some]
        refine Ev2.ret ⟨_, _, rfl, rfl, rfl, RR.keepX (RR.keepM h (fun o a b c => ?_) ?_ ?_ ?_ hM.2) hO⟩
        · by_cases q2 : o = 2
          · rw [q2, sx_row, hn, upd_upd, upd_self rfl]
          · rw [sx_row_ne _ _ _ q2, hM.1 o q2, sA_ne _ _ b]
        · rw [sx_row_ne _ _ _ (by omega), hM.1 0 (by omega), sA_ne _ _ (by omega)]
        · rw [sx_row_ne _ _ _ (by omega), hM.1 0 (by omega), sA_ne _ _ (by omega), h16]
        · rw [sx_row_ne _ _ _ (by omega), hM.1 0 (by omega), sA_ne _ _ (by omega)]
    · rw [e2]
      exact Bo.ret h
  · rw [e1]
    exact Bo.ret h
end STAYS
