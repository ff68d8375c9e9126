/-! an item: pay -/
section PAY
variable {t : Nat → Int32} {n K : Nat} {P : Nat → Nat} {C : Nat → Int32} {E : Nat → Nat} {j : Nat} {y n2 : SQ}
theorem pay_both (h : AT t n K P C E j y n2) (hS : Seq t n K P C E) (hn : n ≤ 400) (hD : DR y n2) {y0 : SQ} (h0 : sI y0 8 5 (y0.1 8 5 + 1) = y) :
    (∃ y' z' j', j ≤ j' ∧ F3_readPay y0 = some (1, y') ∧ F7_readsItem 5 n2 = some ((), z') ∧ AT t n K P C E j' y' z' ∧ DR y' z' ∧ CF y y' ∧ MF n2 z' ∧ y'.1 8 6 = y.1 8 6) ∨
    (∃ y' z' j', j' ≤ K ∧ F3_readPay y0 = some (0, y') ∧ F7_readsItem 5 n2 = some ((), z') ∧ y'.1 8 5 = nI j' ∧ FA (P j') z' ∧ CF y y' ∧ MF n2 z') := by
  obtain ⟨s, hs⟩ : ∃ s, s = mm_ns (dD n2) := ⟨_, rfl⟩
  have h41 := hD.1.ns.2
  have e83 : n2.1 2 83 = nI s := by rw [hs]; exact hD.1.ns.1
  have e10 : y.1 10 1 = nI s := by rw [hD.2.1.2.1, hD.1.ns.1, hs]
  have p0 : ∀ v : Nat, v ≤ 100 → (0 : Int32) ≤ nI v := fun v hv => nI_pos' (by omega)
  have g : ¬ (0 : Int32) ≤ -1 := by decide
  have g0 : ¬ (5 : Int32) = 0 := by decide
  have g1 : ¬ (5 : Int32) = 1 := by decide
  have g2 : ¬ (5 : Int32) = 2 := by decide
  rcases num_both (a := 0) (b := nI s - 1) h hS hn (by decide) with ⟨v1, z1, hv1, w1, r1, s1, f1, A1⟩ | ⟨r1, s1⟩
  · have hv : v1 < s := by
      rcases wi_N (nI v1) (n := s) (by omega) _ rfl with ⟨i, i1, i2, -⟩ | ⟨i1, -⟩
      · have := (nI_eq (by omega) (by omega)).mp i2
        omega
      · rw [i1] at w1; exact absurd w1 (by decide)
    rcases num_both (a := 0) (b := 9) A1 hS hn (by decide) with ⟨v2, z2, hv2, w2, r2, s2, f2, A2⟩ | ⟨r2, s2⟩
    · left
      obtain ⟨y3, hy3⟩ : ∃ y3, y3 = sI (sI y 8 5 (nI (j + 1))) 8 5 (nI (j + 1 + 1)) := ⟨_, rfl⟩
      rw [← hy3] at A2 r2
      have y3d : ∀ o, o ≠ 8 → y3.1 o = y.1 o := fun o ho => by rw [hy3, sx_row_ne _ _ _ ho, sx_row_ne _ _ _ ho]
      have hw := Mwell A2
      have n0 : ¬ (1 : Int32) = 0 := by decide
      have C1 : F3_readPay y0 = some (1, sI y3 16 v1 (nI v2)) := by
        unfold F3_readPay
        simp (disch := omega) only [sx_let_e, gI_def, h0, e10, r1, bind_e, if_pos (p0 v1 hv1), r2, if_pos (p0 v2 hv2), Int32.add_zero, px_m3, px_a3, px_a24, px_a36, px_a42, px_m27, px_p1, px_p2, px_p3, nI_add, nI_clamp, sx_ixN, if_true, Bool.false_eq_true, if_false]
      have C2 : F7_readsItem 5 n2 = some ((), sI z2 2 (66 + 3 * v1 + 2) (nI v2)) := by
        unfold F7_readsItem
        simp (disch := omega) only [sx_let_e, gI_def, bind_e, if_neg g0, if_neg g1, if_neg g2, e83, s1, s2, hw, if_neg n0, px_a66, Int32.add_zero, px_m3, px_a3, px_a24, px_a36, px_a42, px_m27, px_p1, px_p2, px_p3, nI_add, nI_clamp, sx_ixN, if_true, Bool.false_eq_true, if_false]
      have D2 : dD (sI z2 2 (66 + 3 * v1 + 2) (nI v2)) = upd (dD n2) (24 + 3 * v1 + 2) (nI v2) := by
        funext i
        unfold dD
        rw [sx_row, f2.1 2 (by omega), f1.1 2 (by omega)]
        by_cases q : i = 24 + 3 * v1 + 2
        · rw [q, upd_eq, show 42 + (24 + 3 * v1 + 2) = 66 + 3 * v1 + 2 by omega, upd_eq]
        · rw [upd_ne _ _ q, upd_ne _ _ (by omega)]
      have hw2 : inN (nI v2) 0 9 := wr_in (by omega) (by omega) (by rw [nI_0]; exact w2)
      have ens : mm_ns (upd (dD n2) (24 + 3 * v1 + 2) (nI v2)) = mm_ns (dD n2) := by unfold mm_ns; rw [upd_ne _ _ (by omega)]
      refine ⟨_, _, j + 1 + 1, by omega, C1, C2, (A2.kd (by omega)).k2, ⟨by rw [D2]; exact hD.1.spay (by omega) hw2, by rw [D2]; exact (hD.2.1.cong (fun o h1 h2 => y3d o (by omega))).spay hD.1 (by omega) _, ?_⟩, ?_, mf_2 (mf_tr (mf_fx f1) (mf_fx f2)) (by omega), ?_⟩
      · rw [D2, ens]
        intro s2 h1 h2
        rw [sx_row, upd_ne _ _ (by omega), y3d 16 (by omega)]
        exact hD.2.2 s2 h1 h2
      · rw [hy3]
        exact cf_d (cf_8 (cf_8 (cf_rf y) (by omega)) (by omega)) (by omega)
      · rw [sx_row_ne _ _ _ (by omega), hy3, sx_row, upd_ne _ _ (by omega), sx_row, upd_ne _ _ (by omega)]
    · right
      have k0 := A1.fa hS hn
      unfold F3_readPay F7_readsItem
      simp (disch := omega) only [sx_let_e, gI_def, h0, e10, r1, bind_e, if_pos (p0 v1 hv1), r2, if_neg g, if_neg g0, if_neg g1, if_neg g2, e83, s1, s2, fa_well k0, if_true]
      exact ⟨_, _, j + 1, A1.1, rfl, rfl, by rw [sx_row, upd_eq], k0, cf_8 (cf_rf y) (by omega), mf_8 (mf_fx f1)⟩
  · right
    have k0 := h.fa hS hn
    unfold F3_readPay F7_readsItem
    simp (disch := omega) only [sx_let_e, gI_def, h0, e10, r1, bind_e, if_neg g, if_neg g0, if_neg g1, if_neg g2, e83, s1, fa_number k0, fa_well k0, if_true]
    exact ⟨_, _, j, h.1, rfl, rfl, h.2.1, k0, cf_rf y, mf_8 (mf_rf n2)⟩
end PAY
