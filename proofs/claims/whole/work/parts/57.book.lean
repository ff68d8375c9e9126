/-! an item: book -/
theorem px_a66 (a : Nat) : (66 : Int32) + nI a = nI (66 + a) := nI_add 66 a
section BOOK
variable {t : Nat → Int32} {n K : Nat} {P : Nat → Nat} {C : Nat → Int32} {E : Nat → Nat} {j : Nat} {y n2 : SQ}
theorem wr_in {v a b : Nat} (hab : a ≤ b) (hb : b ≤ 100) (hw : wi (nI v) (nI a) (nI b) = 1) : inN (nI v) a b := by
  rcases wi_lit (nI v) (a := a) (b := b) hab (by omega) _ _ rfl rfl with ⟨i, i1, i2, i3, -⟩ | ⟨i1, -⟩
  · exact ⟨i, i1, i2, i3⟩
  · rw [i1] at hw; exact absurd hw (by decide)
theorem dr_book {D D2 : Nat → Int32} {s : Nat} {y3 y4 : SQ} {a b : Int32} (hD : okT D) (hX : XT y3 10 D) (hz : y3.1 16 s = 0) (hs : s = mm_ns D) (h4 : s < 4) (ha : inN a 1 9) (hb : inN b 0 9)
    (e1 : D2 (24 + 3 * s) = a ∧ D2 (24 + 3 * s + 1) = b ∧ D2 (24 + 3 * s + 2) = 0 ∧ D2 41 = nI (s + 1)) (e2 : ∀ i, i ≠ 24 + 3 * s → i ≠ 24 + 3 * s + 1 → i ≠ 24 + 3 * s + 2 → i ≠ 41 → D2 i = D i)
    (f1 : y4.1 14 = upd (y3.1 14) s a ∧ y4.1 15 = upd (y3.1 15) s b ∧ y4.1 10 = upd (y3.1 10) 1 (nI (s + 1))) (f2 : ∀ o, (11 ≤ o ∧ o ≤ 13) ∨ o = 16 → y4.1 o = y3.1 o) : okT D2 ∧ XT y4 10 D2 ∧ mm_ns D2 = s + 1 := by
  have n1 : mm_nc D2 = mm_nc D := by unfold mm_nc; rw [e2 40 (by omega) (by omega) (by omega) (by omega)]
  have n2 : mm_ns D2 = s + 1 := by unfold mm_ns; rw [e1.2.2.2]; exact nI_clamp (by omega)
  have h40 := hD.nc.2
  obtain ⟨a1, a2, a3, a4, a5, a6, a7, a8⟩ := hD
  obtain ⟨x1, x2, x3, x4, x5, x6, x7, x8⟩ := hX
  have g : ∀ i, (i < 24 ∨ (36 ≤ i ∧ i ≠ 41)) → D2 i = D i := fun i h1 => e2 i (by omega) (by omega) (by omega) (by omega)
  refine ⟨?_, ?_, n2⟩
  · unfold okT
    rw [n1, n2, e1.2.2.2, g 40 (by omega), g 36 (by omega), g 37 (by omega), g 38 (by omega), g 39 (by omega)]
    refine ⟨a1, ⟨s + 1, by omega, by omega, rfl⟩, a3, a4, a5, a6, fun i hi => ?_, fun k hk => ?_⟩
    · rw [g (3 * i) (by omega), g (3 * i + 1) (by omega), g (3 * i + 2) (by omega)]
      exact a7 i hi
    · by_cases q : k = s
      · rw [q, e1.1, e1.2.1, e1.2.2.1]
        exact ⟨ha, hb, in_z 9⟩
      · rw [e2 (24 + 3 * k) (by omega) (by omega) (by omega) (by omega), e2 (24 + 3 * k + 1) (by omega) (by omega) (by omega) (by omega), e2 (24 + 3 * k + 2) (by omega) (by omega) (by omega) (by omega)]
        exact a8 k (by omega)
  · unfold XT
    rw [n1, n2, e1.2.2.2, g 40 (by omega), g 36 (by omega), g 37 (by omega), g 38 (by omega), g 39 (by omega), f1.1, f1.2.1, f1.2.2, f2 11 (by omega), f2 12 (by omega), f2 13 (by omega), f2 16 (by omega), upd_eq, upd_ne _ _ (show 0 ≠ 1 by omega), upd_ne _ _ (show 8 ≠ 1 by omega), upd_ne _ _ (show 9 ≠ 1 by omega), upd_ne _ _ (show 10 ≠ 1 by omega), upd_ne _ _ (show 11 ≠ 1 by omega)]
    refine ⟨x1, rfl, x3, x4, x5, x6, fun i hi => ?_, fun k hk => ?_⟩
    · rw [g (3 * i) (by omega), g (3 * i + 1) (by omega), g (3 * i + 2) (by omega)]
      exact x7 i hi
    · by_cases q : k = s
      · rw [q, e1.1, e1.2.1, e1.2.2.1, upd_eq, upd_eq]
        exact ⟨rfl, rfl, hz⟩
      · rw [e2 (24 + 3 * k) (by omega) (by omega) (by omega) (by omega), e2 (24 + 3 * k + 1) (by omega) (by omega) (by omega) (by omega), e2 (24 + 3 * k + 2) (by omega) (by omega) (by omega) (by omega), upd_ne _ _ q, upd_ne _ _ q]
        exact x8 k (by omega)
theorem book_both (h : AT t n K P C E j y n2) (hS : Seq t n K P C E) (hn : n ≤ 400) (hD : DR y n2) (h4 : mm_ns (dD n2) < 4) {y0 : SQ} (h0 : sI y0 8 5 (y0.1 8 5 + 1) = y) :
    (∃ y' z' j', j ≤ j' ∧ F3_readBook y0 = some (1, y') ∧ F7_readsItem 1 n2 = some ((), z') ∧ AT t n K P C E j' y' z' ∧ DR y' z' ∧ CF y y' ∧ MF n2 z' ∧ y'.1 8 6 = y.1 8 6) ∨
    (∃ y' z' j', j' ≤ K ∧ F3_readBook y0 = some (0, y') ∧ F7_readsItem 1 n2 = some ((), z') ∧ y'.1 8 5 = nI j' ∧ FA (P j') z' ∧ CF y y' ∧ MF n2 z') := by
  obtain ⟨s, hs⟩ : ∃ s, s = mm_ns (dD n2) := ⟨_, rfl⟩
  have e83 : n2.1 2 83 = nI s := by rw [hs]; exact hD.1.ns.1
  have p0 : ∀ v : Nat, v ≤ 100 → (0 : Int32) ≤ nI v := fun v hv => nI_pos' (by omega)
  have g : ¬ (0 : Int32) ≤ -1 := by decide
  have g1 : ¬ (1 : Int32) = 0 := by decide
  rcases num_both (a := 1) (b := 9) h hS hn (by decide) with ⟨v1, z1, hv1, w1, r1, s1, f1, A1⟩ | ⟨r1, s1⟩
  · have A1k : AT t n K P C E (j + 1) (sI y 8 5 (nI (j + 1))) (sI z1 2 (66 + 3 * s) (nI v1)) := A1.k2
    have M1 : MF n2 (sI z1 2 (66 + 3 * s) (nI v1)) := mf_2 (mf_fx f1) (by omega)
    rcases num_both (a := 0) (b := 9) A1k hS hn (by decide) with ⟨v2, z2, hv2, w2, r2, s2, f2, A2⟩ | ⟨r2, s2⟩
    · left
      obtain ⟨y3, hy3⟩ : ∃ y3, y3 = sI (sI y 8 5 (nI (j + 1))) 8 5 (nI (j + 1 + 1)) := ⟨_, rfl⟩
      rw [← hy3] at A2 r2
      have y3d : ∀ o, o ≠ 8 → y3.1 o = y.1 o := fun o ho => by rw [hy3, sx_row_ne _ _ _ ho, sx_row_ne _ _ _ ho]
      have e10 : y3.1 10 1 = nI s := by rw [y3d 10 (by omega), hD.2.1.2.1, hD.1.ns.1, hs]
      have l4 : nI s < (4 : Int32) := by rw [px_l4]; exact nI_lt (by omega) (by omega)
      have X83 : (sI (sI z2 2 (66 + 3 * s + 1) (nI v2)) 2 (66 + 3 * s + 2) 0).1 2 83 = nI s := by
        rw [sx_row, upd_ne _ _ (by omega), sx_row, upd_ne _ _ (by omega), f2.1 2 (by omega), sx_row, upd_ne _ _ (by omega), f1.1 2 (by omega), e83]
      have C1 : F3_readBook y0 = some (1, sI (sI (sI y3 14 s (nI v1)) 15 s (nI v2)) 10 1 (nI (s + 1))) := by
        unfold F3_readBook F4_addSort
        simp (disch := omega) only [sx_let_e, gI_def, h0, r1, bind_e, if_pos (p0 v1 hv1), r2, if_pos (p0 v2 hv2), e10, if_pos l4, Int32.add_zero, px_m3, px_a3, px_a24, px_a36, px_a42, px_m27, px_p1, px_p2, px_p3, nI_add, nI_clamp, sx_ixN, if_true, Bool.false_eq_true, if_false, sx_row_ne]
      have C2 : F7_readsItem 1 n2 = some ((), sI (sI (sI z2 2 (66 + 3 * s + 1) (nI v2)) 2 (66 + 3 * s + 2) 0) 2 83 (nI (s + 1))) := by
        unfold F7_readsItem
        simp (disch := omega) only [sx_let_e, gI_def, bind_e, if_neg g1, e83, s1, s2, px_a66, Int32.add_zero, px_m3, px_a3, px_a24, px_a36, px_a42, px_m27, px_p1, px_p2, px_p3, nI_add, nI_clamp, sx_ixN, if_true, Bool.false_eq_true, if_false, X83]
      obtain ⟨D2, hD2⟩ : ∃ D2, D2 = dD (sI (sI (sI z2 2 (66 + 3 * s + 1) (nI v2)) 2 (66 + 3 * s + 2) 0) 2 83 (nI (s + 1))) := ⟨_, rfl⟩
      have D2a : ∀ i, D2 i = upd (upd (upd (upd (n2.1 2) (66 + 3 * s) (nI v1)) (66 + 3 * s + 1) (nI v2)) (66 + 3 * s + 2) 0) 83 (nI (s + 1)) (42 + i) := fun i => by
        rw [hD2]
        unfold dD
        rw [sx_row, sx_row, sx_row, f2.1 2 (by omega), sx_row, f1.1 2 (by omega)]
      have dr := dr_book (D := dD n2) (D2 := D2) (s := s) (y3 := y3) (y4 := sI (sI (sI y3 14 s (nI v1)) 15 s (nI v2)) 10 1 (nI (s + 1))) (a := nI v1) (b := nI v2) hD.1 (hD.2.1.cong (fun o h1 h2 => y3d o (by omega))) (by rw [y3d 16 (by omega)]; exact hD.2.2 s (by omega) (by omega)) hs (by omega) (wr_in (a := 1) (by omega) (by omega) w1) (wr_in (a := 0) (by omega) (by omega) (by rw [nI_0]; exact w2))
        ⟨by rw [D2a, show 42 + (24 + 3 * s) = 66 + 3 * s by omega, upd_ne _ _ (by omega), upd_ne _ _ (by omega), upd_ne _ _ (by omega), upd_eq], by rw [D2a, show 42 + (24 + 3 * s + 1) = 66 + 3 * s + 1 by omega, upd_ne _ _ (by omega), upd_ne _ _ (by omega), upd_eq], by rw [D2a, show 42 + (24 + 3 * s + 2) = 66 + 3 * s + 2 by omega, upd_ne _ _ (by omega), upd_eq], by rw [D2a, upd_eq]⟩
        (fun i i1 i2 i3 i4 => by rw [D2a, upd_ne _ _ (by omega), upd_ne _ _ (by omega), upd_ne _ _ (by omega), upd_ne _ _ (by omega)]; rfl)
        ⟨by rw [sx_row_ne _ _ _ (by omega), sx_row_ne _ _ _ (by omega), sx_row], by rw [sx_row_ne _ _ _ (by omega), sx_row, sx_row_ne _ _ _ (by omega)], by rw [sx_row, sx_row_ne _ _ _ (by omega), sx_row_ne _ _ _ (by omega)]⟩
        (fun o h1 => by rw [sx_row_ne _ _ _ (by omega), sx_row_ne _ _ _ (by omega), sx_row_ne _ _ _ (by omega)])
      refine ⟨_, _, j + 1 + 1, by omega, C1, C2, (((A2.kd (by omega)).kd (by omega)).kd (by omega)).k2.k2.k2, ⟨by rw [← hD2]; exact dr.1, by rw [← hD2]; exact dr.2.1, ?_⟩, ?_, mf_2 (mf_2 (mf_2 (mf_tr M1 (mf_fx f2)) (by omega)) (by omega)) (by omega), ?_⟩
      · rw [← hD2, dr.2.2]
        intro s2 h1 h2
        rw [sx_row_ne _ _ _ (by omega), sx_row_ne _ _ _ (by omega), sx_row_ne _ _ _ (by omega), y3d 16 (by omega)]
        exact hD.2.2 s2 (by omega) h2
      · rw [hy3]
        exact cf_d (cf_d (cf_d (cf_8 (cf_8 (cf_rf y) (by omega)) (by omega)) (by omega)) (by omega)) (by omega)
      · rw [sx_row_ne _ _ _ (by omega), sx_row_ne _ _ _ (by omega), sx_row_ne _ _ _ (by omega), hy3, sx_row, upd_ne _ _ (by omega), sx_row, upd_ne _ _ (by omega)]
    · right
      have k0 := A1k.fa hS hn
      unfold F3_readBook F7_readsItem
      simp (disch := omega) only [sx_let_e, gI_def, h0, r1, bind_e, if_pos (p0 v1 hv1), r2, if_neg g, if_neg g1, e83, s1, s2, px_a66, Int32.add_zero, px_m3, px_a3, px_a24, px_a36, px_a42, px_m27, px_p1, px_p2, px_p3, nI_add, nI_clamp, sx_ixN, if_true, Bool.false_eq_true, if_false]
      exact ⟨_, _, j + 1, A1.1, rfl, rfl, by rw [sx_row, upd_eq], fa_2 (fa_2 (fa_2 k0)), cf_8 (cf_rf y) (by omega), mf_2 (mf_2 (mf_2 (mf_8 M1) (by omega)) (by omega)) (by omega)⟩
  · right
    have k0 := h.fa hS hn
    have k1 : FA (P j) (sI (sI n2 0 8 (nI (P j))) 2 (66 + 3 * s) 0) := fa_2 k0
    unfold F3_readBook F7_readsItem
    simp (disch := omega) only [sx_let_e, gI_def, h0, r1, bind_e, if_neg g, if_neg g1, e83, s1, px_a66, Int32.add_zero, px_m3, px_a3, px_a24, px_a36, px_a42, px_m27, px_p1, px_p2, px_p3, nI_add, nI_clamp, sx_ixN, if_true, Bool.false_eq_true, if_false, fa_number k1]
    exact ⟨_, _, j, h.1, rfl, rfl, h.2.1, fa_2 (fa_2 (fa_2 k1)), cf_rf y, mf_2 (mf_2 (mf_2 (mf_2 (mf_8 (mf_rf n2)) (by omega)) (by omega)) (by omega)) (by omega)⟩
end BOOK
