/-! rate, trial -/
section RATE
variable {x m : SQ}
theorem gL_def (q : SQ) (o k : Nat) : gL q o k = q.2 o k := by cases q; rfl
theorem sL_1 (q : SQ) (o k : Nat) (v : Int64) : (sL q o k v).1 = q.1 := by cases q; rfl
theorem sL_2 (q : SQ) (o k : Nat) (v : Int64) : (sL q o k v).2 o k = v := by cases q; simp [sL]
theorem sL_sL (q : SQ) (o k : Nat) (v w : Int64) : sL (sL q o k v) o k w = sL q o k w := by
  cases q
  simp only [sL]
  refine congrArg _ ?_
  funext a b
  split <;> rfl
theorem RR.sL (h : RR x m) (v : Int64) : RR (sL x 0 11 v) (sL m 0 1 v) := by
  unfold RR RT RU RN RK RX RI RI1 at h ⊢
  unfold XT XR at h ⊢
  rw [sL_1, sL_1, sL_2, sL_2]
  obtain ⟨h1, h2, h3, h4, h5, h6, h7, h8, h9⟩ := h
  exact ⟨h1, h2, h3, h4, h5, h6, h7, rfl, h9⟩
theorem l_11 (a : Int64) : a + 10 + 1 = a + 11 := by rw [Int64.add_assoc]; rfl
theorem l_101 (a : Int64) : a + 100 + 1 = a + 101 := by rw [Int64.add_assoc]; rfl
theorem l_1010 (a : Int64) : a + 1000 + 11 = a + 1011 := by rw [Int64.add_assoc]; rfl
theorem l_11011 (a : Int64) : a + 10000 + 1011 = a + 11011 := by rw [Int64.add_assoc]; rfl
theorem l_100001 (a : Int64) : a + 100000 + 1 = a + 100001 := by rw [Int64.add_assoc]; rfl
theorem rate_bo (h : RR x m) (v1 v2 : Int32) : Bo (F6_rate v1 v2 x) (F7_rate v1 v2 m) := by
  unfold F7_rate F7_rate_22
  simp only [sx_let_e]
  have h := h.t0
  generalize sI m 0 0 0 = m at h ⊢
  have hT := h.1.1
  obtain ⟨e40, h40⟩ := hT.nc
  have hl : x.2 0 11 = m.2 0 1 := h.2.2.2.2.2.2.2.1
  unfold F6_rate
  simp only [XisChild, MisChild, Min, bind_e, h.1.2.1]
  rcases wi_N v2 (n := mm_nc (m.1 2)) (by omega) _ e40 with ⟨j, hj, rfl, e⟩ | ⟨e, -⟩
  · rw [e]
    obtain ⟨s1, s2, s3⟩ := h.2.2.1.1.2.2 j hj
    have s4 := h.2.2.1.1.2.1
    simp only [show ¬ ((1 : Int32) = 0) from by decide, if_false]
    rcases wi_lit v1 (a := 0) (b := 5) (by omega) (by omega) 0 5 rfl rfl with ⟨i, -, hi, rfl, e2⟩ | ⟨e2, hne⟩
    · rw [e2]
      simp (disch := omega) only [show ¬ ((1 : Int32) = 0) from by decide, Int32.add_zero, px_m3, px_a3, px_a24, px_a36, px_a42, px_m27, px_p1, px_p2, px_p3, nI_add, nI_clamp, sx_ixN, if_true, Bool.false_eq_true, if_false, gI_def, gL_def]
      rcases (show i = 0 ∨ i = 1 ∨ i = 2 ∨ i = 3 ∨ i = 4 ∨ i = 5 by omega) with rfl | rfl | rfl | rfl | rfl | rfl
      all_goals (simp (decide := true) (disch := omega) only [F7_rate_129, F6_rateOfPay, F6_rateOfTold, F6_rateOfUnforeseen, F6_rateOfDoing, F6_rateOfWell, F6_rateOfCommon, nI_0, Int32.add_zero, px_m3, px_a3, px_a24, px_a36, px_a42, px_m27, px_p1, px_p2, px_p3, nI_add, nI_clamp, sx_ixN, if_true, Bool.false_eq_true, if_false, sx_let_e, bind_e, gI_def, gL_def, sL_1, sL_2, sL_sL, s1, s2, s3, s4, hl, l_11, l_101, l_1010, l_11011, l_100001]; exact Bo.ret (h.sL _))
    · rw [e2]
      have n0 : ¬ v1 = 0 := hne 0 (by omega) (by omega)
      have n1 : ¬ v1 = 1 := hne 1 (by omega) (by omega)
      have n2 : ¬ v1 = 2 := hne 2 (by omega) (by omega)
      have n3 : ¬ v1 = 3 := hne 3 (by omega) (by omega)
      have n4 : ¬ v1 = 4 := hne 4 (by omega) (by omega)
      have n5 : ¬ v1 = 5 := hne 5 (by omega) (by omega)
      rw [if_neg n0, if_neg n1, if_neg n2, if_neg n3, if_neg n4, if_neg n5, if_pos rfl]
      exact Bo.ret h
  · rw [e]
    simp only [if_true]
    split
    · exact Bo.ret h
    · exact Bo.ret h
/-- a range that goes below nothing -/
theorem wi_sign (v : Int32) : (wi v (-99) 99 = 0) ∨ (wi v (-99) 99 = 1 ∧ -99 ≤ v.toInt ∧ v.toInt ≤ 99) := by
  unfold wi
  split
  · exact Or.inl rfl
  · rename_i a
    split
    · exact Or.inl rfl
    · rename_i b
      refine Or.inr ⟨rfl, ?_, ?_⟩
      · have a1 : ¬ v.toInt < (-99 : Int32).toInt := fun z => a (Int32.lt_iff_toInt_lt.mpr z)
        rw [show (-99 : Int32).toInt = -99 from by decide] at a1
        omega
      · have a1 : ¬ (99 : Int32).toInt < v.toInt := fun z => b (Int32.lt_iff_toInt_lt.mpr z)
        rw [show (99 : Int32).toInt = 99 from by decide] at a1
        omega
theorem RR.note (h : RR x m) {n : Nat} (hn : n < 30) (e : m.1 0 19 = nI n) {a b : Int32} (ha : inN a 0 7) (hb : -99 ≤ b.toInt ∧ b.toInt ≤ 99) : RR (sI (sI (sI x 35 n a) 36 n b) 34 0 (nI (n + 1))) (sI (sI (sI m 9 n a) 10 n b) 0 19 (nI (n + 1))) := by
  obtain ⟨⟨t1, t2⟩, u, ⟨n1, n2⟩, ⟨n', k1, k2, k3, k4⟩, ⟨w, x1, x2, x3, x4⟩, ⟨i1, i2⟩, l, aa, bb⟩ := h
  have en : n' = n := (nI_eq (by omega) (by omega)).mp (k2.symm.trans e)
  subst en
  have E : ∀ o, o ≠ 34 → o ≠ 35 → o ≠ 36 → (sI (sI (sI x 35 n' a) 36 n' b) 34 0 (nI (n' + 1))).1 o = x.1 o := fun o h1 h2 h3 => by rw [sx_row_ne _ _ _ h1, sx_row_ne _ _ _ h3, sx_row_ne _ _ _ h2]
  have F : ∀ o, o ≠ 0 → o ≠ 9 → o ≠ 10 → (sI (sI (sI m 9 n' a) 10 n' b) 0 19 (nI (n' + 1))).1 o = m.1 o := fun o h1 h2 h3 => by rw [sx_row_ne _ _ _ h1, sx_row_ne _ _ _ h3, sx_row_ne _ _ _ h2]
  have F0 : ∀ i, i ≠ 19 → (sI (sI (sI m 9 n' a) 10 n' b) 0 19 (nI (n' + 1))).1 0 i = m.1 0 i := fun i hi => by rw [sx_row, upd_ne _ _ hi, sx_row_ne _ _ _ (by omega), sx_row_ne _ _ _ (by omega)]
  unfold RR RT RU RN RK RX RI RI1
  rw [F 1 (by omega) (by omega) (by omega), F 2 (by omega) (by omega) (by omega), F 3 (by omega) (by omega) (by omega), F 4 (by omega) (by omega) (by omega), F 5 (by omega) (by omega) (by omega), F 6 (by omega) (by omega) (by omega), sI_two, sI_two, sI_two, sI_two, sI_two, sI_two]
  refine ⟨⟨t1, t2.cong (fun o h1 h2 => E o (by omega) (by omega) (by omega))⟩, fun i hi => by rw [E 23 (by omega) (by omega) (by omega)]; exact u i hi, ⟨n1.cong (fun o h1 h2 => E o (by omega) (by omega) (by omega)), n2⟩, ⟨n' + 1, by omega, by rw [sx_row, upd_eq], by rw [sx_row, upd_eq], fun i hi => ?_⟩, ⟨w, x1, by rw [F0 3 (by omega)]; exact x2, by rw [E 8 (by omega) (by omega) (by omega)]; exact x3, fun i hi => by rw [E 9 (by omega) (by omega) (by omega)]; exact x4 i hi⟩, ⟨?_, ?_⟩, by rw [E 0 (by omega) (by omega) (by omega)]; exact l, aa, by rw [F0 16 (by omega)]; exact bb⟩
  · rw [sx_row_ne _ _ _ (show 35 ≠ 34 by omega), sx_row_ne _ _ _ (show 36 ≠ 34 by omega), sx_row_ne _ _ _ (show 35 ≠ 36 by omega), sx_row_ne _ _ _ (show 9 ≠ 0 by omega), sx_row_ne _ _ _ (show 10 ≠ 0 by omega), sx_row_ne _ _ _ (show 9 ≠ 10 by omega), sx_row, sx_row, sx_row, sx_row, sx_row_ne _ _ _ (show 36 ≠ 35 by omega), sx_row_ne _ _ _ (show 10 ≠ 9 by omega)]
    by_cases q : i = n'
    · subst q
      rw [upd_eq, upd_eq, upd_eq, upd_eq]
      exact ⟨rfl, rfl, ha, hb⟩
    · rw [upd_ne _ _ q, upd_ne _ _ q, upd_ne _ _ q, upd_ne _ _ q]
      exact k4 i (by omega)
  · rw [E 24 (by omega) (by omega) (by omega)]
    exact ⟨i1.1, i1.2.1, fun hj => ⟨(i1.2.2 hj).1, (i1.2.2 hj).2.1.cong (fun o h1 h2 => E o (by omega) (by omega) (by omega)), (i1.2.2 hj).2.2⟩⟩
  · rw [E 29 (by omega) (by omega) (by omega)]
    exact ⟨i2.1, i2.2.1, fun hj => ⟨(i2.2.2 hj).1, (i2.2.2 hj).2.1.cong (fun o h1 h2 => E o (by omega) (by omega) (by omega)), (i2.2.2 hj).2.2⟩⟩
theorem px_l30 : (30 : Int32) = nI 30 := by decide
theorem trial_bo (h : RR x m) (v1 v2 : Int32) : Bo (F6_trial v1 v2 x) (F7_trial v1 v2 m) := by
  unfold F7_trial F7_trial_26
  simp only [sx_let_e]
  have h := h.t0
  generalize sI m 0 0 0 = m at h ⊢
  obtain ⟨n, k1, k2, k3, -⟩ := h.2.2.2.1
  unfold F6_trial F6_trial_21 F5_note
  simp only [Xin, Min, bind_e, sx_let_e, gI_def, k2, k3]
  rcases wi_lit v1 (a := 0) (b := 7) (by omega) (by omega) 0 7 rfl rfl with ⟨i, -, hi, rfl, e2⟩ | ⟨e2, -⟩
  · rw [e2]
    simp only [show ¬ ((1 : Int32) = 0) from by decide, if_false]
    rcases wi_sign v2 with e | ⟨e, hv⟩
    · rw [e]
      exact Bo.ret h
    · rw [e]
      simp only [show ¬ ((1 : Int32) = 0) from by decide, if_false]
      by_cases q : n = 30
      · subst q
        have c1 : ¬ nI 30 < (30 : Int32) := by decide
        have c2 : nI 30 = (30 : Int32) := by decide
        rw [if_neg c1, if_pos c2]
        exact Bo.ret h
      · have c1 : nI n < (30 : Int32) := by rw [px_l30]; exact nI_lt (by omega) (by omega)
        have c2 : ¬ nI n = (30 : Int32) := by rw [px_l30]; exact fun e => q ((nI_eq (by omega) (by omega)).mp e)
        have g1 : (sI x 35 n (nI i)).1 34 0 = nI n := by rw [sx_row_ne _ _ _ (by omega), k3]
        have g2 : (sI (sI x 35 n (nI i)) 36 n v2).1 34 0 = nI n := by rw [sx_row_ne _ _ _ (by omega), g1]
        have g3 : (sI m 9 n (nI i)).1 0 19 = nI n := by rw [sx_row_ne _ _ _ (by omega), k2]
        have g4 : (sI (sI m 9 n (nI i)) 10 n v2).1 0 19 = nI n := by rw [sx_row_ne _ _ _ (by omega), g3]
        simp (disch := omega) only [if_pos c1, if_neg c2, Int32.add_zero, px_m3, px_a3, px_a24, px_a36, px_a42, px_m27, px_p1, px_p2, px_p3, nI_add, nI_clamp, sx_ixN, if_true, Bool.false_eq_true, if_false, g1, g2, g3, g4, bind_e, show ¬ ((1 : Int32) = 0) from by decide, sx_row, upd_eq]
        exact Bo.ret (h.note (show n < 30 by omega) k2 ⟨i, by omega, hi, rfl⟩ hv)
  · rw [e2]
    exact Bo.ret h
end RATE
