/-! chart -/
section CHART
variable {x m : SQ}
theorem chart_bo (h : RR x m) : Bo (F6_chart x) (F7_chart m) := by
  unfold F7_chart F6_chart F3_readItems
  simp only [sx_let_e]
  have h := h.t0
  generalize sI m 0 0 0 = m at h ⊢
  obtain ⟨n, hn, m3, x8, ht⟩ := h.2.2.2.2.1
  have h16 := h.2.2.2.2.2.2.2.2
  obtain ⟨⟨u1, y1⟩, e1, K, P, C, E, hS, hT, O1⟩ := Xcut (t := m.1 1) hn x8 (fun i hi => (ht i hi).1) (fun i hi => (ht i hi).2)
  simp only at hT O1
  obtain ⟨⟨u2, y2⟩, e2, X2, Z2, O2⟩ := Xwipe (x := y1)
  simp only at X2 Z2 O2
  obtain ⟨m2, hm2⟩ : ∃ m2, m2 = sI (sI m 0 8 (-1)) 0 4 0 := ⟨_, rfl⟩
  rw [← hm2]
  have M2 : MF m m2 := by rw [hm2]; exact mf_tr (mf_8 (mf_rf m)) (mf_fx (fx_s (fx_rf _) (by omega)))
  obtain ⟨m4, hm4⟩ : ∃ m4, m4 = sA m2 2 (mm_dr (m2.1 2) 42) := ⟨_, rfl⟩
  have e4 := Mdrafts (m := m2)
  rw [← hm4] at e4
  have M4 : MF m m4 := by
    refine mf_tr M2 ⟨fun o a b => by rw [hm4, sA_ne _ _ b], by rw [hm4, sA_two], fun j hj => by rw [hm4, sA_ne _ _ (by omega)], fun j hj => ?_⟩
    rw [hm4, sA_eq, dr_lt _ hj]
  have r2 : m4.1 2 = mm_dr (m2.1 2) 42 := by rw [hm4, sA_eq]
  have r0 : m4.1 0 = m2.1 0 := by rw [hm4, sA_ne _ _ (by omega)]
  obtain ⟨-, -, -, -, -, b6⟩ := hS.2.2.1 0 (Nat.zero_le _)
  obtain ⟨⟨u5, m5⟩, e5, f1, f2, f3, f4⟩ := b6 m4 (by rw [M4.2.2.1 3 (by omega), m3]) (M4.1 1 (by omega) (by omega)) (by rw [r0, hm2, sx_row, upd_eq, hS.2.1, nI_0])
  simp only at f1 f2 f3 f4
  have M5 : MF m m5 := mf_tr M4 (mf_fx f1)
  obtain ⟨y4, hy4⟩ : ∃ y4, y4 = sI (sI y2 8 6 0) 8 5 0 := ⟨_, rfl⟩
  simp only [e1, e2, bind_e, e4, e5]
  rw [← hy4]
  have EY : ∀ o, o ≠ 8 → y4.1 o = y2.1 o := fun o ho => by rw [hy4, sx_row_ne _ _ _ ho, sx_row_ne _ _ _ ho]
  have y80 : y4.1 8 0 = x.1 8 0 := by
    rw [hy4, sx_row, upd_ne _ _ (by omega), sx_row, upd_ne _ _ (by omega), O2.1 8 (by omega), O1.1 8 (by omega)]
  have OX : Only (fun o => o = 8 ∨ (10 ≤ o ∧ o ≤ 18)) x y4 := by
    rw [hy4]
    exact (((O1.mono (fun o ho => by omega)).tr (O2.mono (fun o ho => by omega))).sI (by omega)).sI (by omega)
  have dD5 : ∀ j, j < 42 → dD m5 j = mm_D0 j := dD_dr (T := m2.1 2) (by rw [f1.1 2 (by omega), r2])
  have A0 : AT (m.1 1) n K P C E 0 y4 m5 := by
    refine ⟨Nat.zero_le _, by rw [hy4, sx_row, upd_eq, nI_0], by rw [y80, x8], fun i hi => ?_, ?_, ?_, M5.1 1 (by omega) (by omega), f2, fun hk => f3 (hS.2.2.2.1 0 hk), f4⟩
    · rw [EY 17 (by omega), EY 18 (by omega), O2.1 17 (by omega), O2.1 18 (by omega)]
      exact hT i hi
    · rw [f1.2.2 8 (by omega), r0, hm2, sx_row, upd_ne _ _ (by omega), sx_row, upd_eq]
    · rw [M5.2.2.1 3 (by omega), m3]
  have D0 : DR y4 m5 := by
    refine ⟨D0_ok.cong dD5, (X2.cong (fun o h1 h2 => EY o (by omega))).congT D0_ok dD5, fun s h1 h2 => ?_⟩
    rw [EY 16 (by omega)]
    exact Z2 s h2
  obtain ⟨⟨u, yk⟩, v, eX, eM, hI⟩ := items_both hS hn A0 D0 (by rw [hy4, sx_row, upd_ne _ _ (by omega), sx_row, upd_eq])
  rw [eX, eM]
  simp only [bind_e]
  rcases hI with ⟨k, z, hk, rfl, rfl, hC, hM, hD⟩ | ⟨j, hj, rfl, hv, h5, hC, hM, h18⟩
  · simp only at hC hD
    rw [if_pos (nI_pos' (by omega))]
    obtain ⟨⟨r, w⟩, ew, rfl, hw⟩ := h.adopt (OX.tr (hC.1.mono (fun o ho => by omega))) (mf_tr M5 hM) hD (nI k)
    simp only [sx_let_e] at ew
    rw [ew]
    exact Bo.ret hw
  · simp only at hC h5 h18
    have g : ¬ (0 : Int32) ≤ -1 := by decide
    have hK := hS.1
    have f1 : ¬ (401 : Int32) ≤ nI j := by rw [show (401 : Int32) = nI 401 from by decide]; exact nI_ge (by omega) (by omega)
    have j4 : sx_ix (nI j) 401 = true := sx_ixN (by omega) (by omega)
    have ef : F3_fault yk = some (nI (P j), yk) := by
      unfold F3_fault
      simp only [gI_def, h5, if_neg f1, if_pos j4, nI_clamp (show j < 2 ^ 31 by omega), h18]
    rw [if_neg g, ef, bind_e]
    obtain ⟨v1, vm⟩ := v
    simp only at hv hM
    rw [hv]
    have M6 : MF m vm := mf_tr M5 hM
    refine Bo.ret ((h.far M6.1 M6.2.2.2 (M6.2.2.1 3 (by omega)) ((M6.2.2.1 16 (by omega)).trans h16) (M6.2.2.1 19 (by omega)) M6.2.1).keepR (OX.tr (hC.1.mono (fun o ho => by omega))) ?_)
    rw [hC.2, y80]
end CHART
