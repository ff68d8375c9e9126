/-! an item: child -/
section CHILD
variable {t : Nat → Int32} {n K : Nat} {P : Nat → Nat} {C : Nat → Int32} {E : Nat → Nat} {j : Nat} {y n2 : SQ}
/-- the draft with one more child -/
theorem dr_child {D D2 : Nat → Int32} {c : Nat} {y3 y4 : SQ} {a b d : Int32} (hD : okT D) (hX : XT y3 10 D) (hc : c = mm_nc D) (h8 : c < 8) (ha : inN a 0 100) (hb : inN b 1 9) (hd : inN d 0 9)
    (e1 : D2 (3 * c) = a ∧ D2 (3 * c + 1) = b ∧ D2 (3 * c + 2) = d ∧ D2 40 = nI (c + 1)) (e2 : ∀ i, i ≠ 3 * c → i ≠ 3 * c + 1 → i ≠ 3 * c + 2 → i ≠ 40 → D2 i = D i)
    (f1 : y4.1 11 = upd (y3.1 11) c a ∧ y4.1 12 = upd (y3.1 12) c b ∧ y4.1 13 = upd (y3.1 13) c d ∧ y4.1 10 = upd (y3.1 10) 0 (nI (c + 1))) (f2 : ∀ o, 14 ≤ o → o ≤ 16 → y4.1 o = y3.1 o) : okT D2 ∧ XT y4 10 D2 ∧ mm_ns D2 = mm_ns D := by
  have n1 : mm_nc D2 = c + 1 := by unfold mm_nc; rw [e1.2.2.2]; exact nI_clamp (by omega)
  have n2 : mm_ns D2 = mm_ns D := by unfold mm_ns; rw [e2 41 (by omega) (by omega) (by omega) (by omega)]
  have h41 := hD.ns.2
  obtain ⟨a1, a2, a3, a4, a5, a6, a7, a8⟩ := hD
  obtain ⟨x1, x2, x3, x4, x5, x6, x7, x8⟩ := hX
  have g : ∀ i, 24 ≤ i → i ≠ 40 → D2 i = D i := fun i h1 h2 => e2 i (by omega) (by omega) (by omega) h2
  refine ⟨?_, ?_, n2⟩
  · unfold okT
    rw [n1, n2, e1.2.2.2, g 41 (by omega) (by omega), g 36 (by omega) (by omega), g 37 (by omega) (by omega), g 38 (by omega) (by omega), g 39 (by omega) (by omega)]
    refine ⟨⟨c + 1, by omega, by omega, rfl⟩, a2, a3, a4, a5, a6, fun i hi => ?_, fun k hk => ?_⟩
    · by_cases q : i = c
      · rw [q, e1.1, e1.2.1, e1.2.2.1]
        exact ⟨ha, hb, hd⟩
      · rw [e2 (3 * i) (by omega) (by omega) (by omega) (by omega), e2 (3 * i + 1) (by omega) (by omega) (by omega) (by omega), e2 (3 * i + 2) (by omega) (by omega) (by omega) (by omega)]
        exact a7 i (by omega)
    · rw [g (24 + 3 * k) (by omega) (by omega), g (24 + 3 * k + 1) (by omega) (by omega), g (24 + 3 * k + 2) (by omega) (by omega)]
      exact a8 k hk
  · unfold XT
    rw [n1, n2, e1.2.2.2, g 41 (by omega) (by omega), g 36 (by omega) (by omega), g 37 (by omega) (by omega), g 38 (by omega) (by omega), g 39 (by omega) (by omega), f1.1, f1.2.1, f1.2.2.1, f1.2.2.2, f2 14 (by omega) (by omega), f2 15 (by omega) (by omega), f2 16 (by omega) (by omega), upd_eq, upd_ne _ _ (by omega), upd_ne _ _ (by omega), upd_ne _ _ (by omega), upd_ne _ _ (by omega), upd_ne _ _ (by omega)]
    refine ⟨rfl, x2, x3, x4, x5, x6, fun i hi => ?_, fun k hk => ?_⟩
    · by_cases q : i = c
      · rw [q, e1.1, e1.2.1, e1.2.2.1, upd_eq, upd_eq, upd_eq]
        exact ⟨rfl, rfl, rfl⟩
      · rw [e2 (3 * i) (by omega) (by omega) (by omega) (by omega), e2 (3 * i + 1) (by omega) (by omega) (by omega) (by omega), e2 (3 * i + 2) (by omega) (by omega) (by omega) (by omega), upd_ne _ _ q, upd_ne _ _ q, upd_ne _ _ q]
        exact x7 i (by omega)
    · rw [g (24 + 3 * k) (by omega) (by omega), g (24 + 3 * k + 1) (by omega) (by omega), g (24 + 3 * k + 2) (by omega) (by omega)]
      exact x8 k hk
theorem child_bad1 (h : AT t n K P C E j y n2) (hS : Seq t n K P C E) (hn : n ≤ 400) {y0 : SQ} (h0 : sI y0 8 5 (y0.1 8 5 + 1) = y) {c : Nat} (h8 : c < 8) (e82 : n2.1 2 82 = nI c) (r1 : F3_readNumber 0 100 y = some (-1, y)) (s1 : F7_number 0 100 n2 = some (0, sI n2 0 8 (nI (P j)))) : ∃ z, F3_readChild y0 = some (0, y) ∧ F7_readsItem 0 n2 = some ((), z) ∧ FA (P j) z ∧ MF n2 z := by
  have f0 := h.fa hS hn
  have f1 : FA (P j) (sI (sI n2 0 8 (nI (P j))) 2 (42 + 3 * c) 0) := fa_2 f0
  have f2 : FA (P j) (sI (sI (sI n2 0 8 (nI (P j))) 2 (42 + 3 * c) 0) 2 (42 + 3 * c + 1) 0) := fa_2 f1
  have g : ¬ (0 : Int32) ≤ -1 := by decide
  unfold F3_readChild F7_readsItem
  simp (disch := omega) only [sx_let_e, h0, r1, bind_e, if_neg g, gI_def, e82, s1, Int32.add_zero, px_m3, px_a3, px_a24, px_a36, px_a42, px_m27, px_p1, px_p2, px_p3, nI_add, nI_clamp, sx_ixN, if_true, Bool.false_eq_true, if_false, fa_number f1, fa_number f2]
  exact ⟨_, trivial, rfl, fa_2 (fa_2 f2), mf_2 (mf_2 (mf_2 (mf_2 (mf_8 (mf_rf n2)) (by omega)) (by omega)) (by omega)) (by omega)⟩
theorem child_both (h : AT t n K P C E j y n2) (hS : Seq t n K P C E) (hn : n ≤ 400) (hD : DR y n2) (h8 : mm_nc (dD n2) < 8) {y0 : SQ} (h0 : sI y0 8 5 (y0.1 8 5 + 1) = y) :
    (∃ y' z' j', j ≤ j' ∧ F3_readChild y0 = some (1, y') ∧ F7_readsItem 0 n2 = some ((), z') ∧ AT t n K P C E j' y' z' ∧ DR y' z' ∧ CF y y' ∧ MF n2 z' ∧ y'.1 8 6 = y.1 8 6) ∨
    (∃ y' z' j', j' ≤ K ∧ F3_readChild y0 = some (0, y') ∧ F7_readsItem 0 n2 = some ((), z') ∧ y'.1 8 5 = nI j' ∧ FA (P j') z' ∧ CF y y' ∧ MF n2 z') := by
  obtain ⟨c, hc⟩ : ∃ c, c = mm_nc (dD n2) := ⟨_, rfl⟩
  have e82 : n2.1 2 82 = nI c := by rw [hc]; exact hD.1.nc.1
  have p0 : ∀ v : Nat, v ≤ 100 → (0 : Int32) ≤ nI v := fun v hv => nI_pos' (by omega)
  have g : ¬ (0 : Int32) ≤ -1 := by decide
  rcases num_both (a := 0) (b := 100) h hS hn (by decide) with ⟨v1, z1, hv1, w1, r1, s1, f1, A1⟩ | ⟨r1, s1⟩
  · have A1k : AT t n K P C E (j + 1) (sI y 8 5 (nI (j + 1))) (sI z1 2 (42 + 3 * c) (nI v1)) := A1.k2
    have M1 : MF n2 (sI z1 2 (42 + 3 * c) (nI v1)) := mf_2 (mf_fx f1) (by omega)
    rcases num_both (a := 1) (b := 9) A1k hS hn (by decide) with ⟨v2, z2, hv2, w2, r2, s2, f2, A2⟩ | ⟨r2, s2⟩
    · have A2k : AT t n K P C E (j + 1 + 1) (sI (sI y 8 5 (nI (j + 1))) 8 5 (nI (j + 1 + 1))) (sI z2 2 (42 + 3 * c + 1) (nI v2)) := A2.k2
      have M2 : MF n2 (sI z2 2 (42 + 3 * c + 1) (nI v2)) := mf_2 (mf_tr M1 (mf_fx f2)) (by omega)
      rcases num_both (a := 0) (b := 9) A2k hS hn (by decide) with ⟨v3, z3, hv3, w3, r3, s3, f3, A3⟩ | ⟨r3, s3⟩
      · left
        obtain ⟨y3, hy3⟩ : ∃ y3, y3 = sI (sI (sI y 8 5 (nI (j + 1))) 8 5 (nI (j + 1 + 1))) 8 5 (nI (j + 1 + 1 + 1)) := ⟨_, rfl⟩
        rw [← hy3] at A3 r3
        have y3d : ∀ o, o ≠ 8 → y3.1 o = y.1 o := fun o ho => by rw [hy3, sx_row_ne _ _ _ ho, sx_row_ne _ _ _ ho, sx_row_ne _ _ _ ho]
        have e10 : y3.1 10 0 = nI c := by rw [y3d 10 (by omega), hD.2.1.1, hD.1.nc.1, hc]
        have l8 : nI c < (8 : Int32) := by rw [px_l8]; exact nI_lt (by omega) (by omega)
        have X82 : (sI z3 2 (42 + 3 * c + 2) (nI v3)).1 2 82 = nI c := by
          rw [sx_row, upd_ne _ _ (by omega), f3.1 2 (by omega), sx_row, upd_ne _ _ (by omega), f2.1 2 (by omega), sx_row, upd_ne _ _ (by omega), f1.1 2 (by omega), e82]
        have C1 : F3_readChild y0 = some (1, sI (sI (sI (sI y3 11 c (nI v1)) 12 c (nI v2)) 13 c (nI v3)) 10 0 (nI (c + 1))) := by
          unfold F3_readChild F4_addChild
          simp (disch := omega) only [sx_let_e, gI_def, h0, r1, bind_e, if_pos (p0 v1 hv1), r2, if_pos (p0 v2 hv2), r3, if_pos (p0 v3 hv3), e10, if_pos l8, Int32.add_zero, px_m3, px_a3, px_a24, px_a36, px_a42, px_m27, px_p1, px_p2, px_p3, nI_add, nI_clamp, sx_ixN, if_true, Bool.false_eq_true, if_false, sx_row_ne]
        have C2 : F7_readsItem 0 n2 = some ((), sI (sI z3 2 (42 + 3 * c + 2) (nI v3)) 2 82 (nI (c + 1))) := by
          unfold F7_readsItem
          simp (disch := omega) only [sx_let_e, gI_def, bind_e, e82, s1, s2, s3, Int32.add_zero, px_m3, px_a3, px_a24, px_a36, px_a42, px_m27, px_p1, px_p2, px_p3, nI_add, nI_clamp, sx_ixN, if_true, Bool.false_eq_true, if_false, X82]
        obtain ⟨D2, hD2⟩ : ∃ D2, D2 = dD (sI (sI z3 2 (42 + 3 * c + 2) (nI v3)) 2 82 (nI (c + 1))) := ⟨_, rfl⟩
        have z3r : z3.1 2 = upd (upd (n2.1 2) (42 + 3 * c) (nI v1)) (42 + 3 * c + 1) (nI v2) := by
          rw [f3.1 2 (by omega), sx_row, f2.1 2 (by omega), sx_row, f1.1 2 (by omega)]
        have D2a : ∀ i, D2 i = upd (upd (upd (upd (n2.1 2) (42 + 3 * c) (nI v1)) (42 + 3 * c + 1) (nI v2)) (42 + 3 * c + 2) (nI v3)) 82 (nI (c + 1)) (42 + i) := fun i => by
          rw [hD2]
          unfold dD
          rw [sx_row, sx_row, z3r]
        have wr : ∀ (v a b : Nat), v ≤ 100 → a ≤ b → b ≤ 100 → wi (nI v) (nI a) (nI b) = 1 → inN (nI v) a b := fun v a b hv hab hb hw => by
          rcases wi_lit (nI v) (a := a) (b := b) hab (by omega) _ _ rfl rfl with ⟨i, i1, i2, i3, -⟩ | ⟨i1, -⟩
          · exact ⟨i, i1, i2, i3⟩
          · rw [i1] at hw; exact absurd hw (by decide)
        have dr := dr_child (D := dD n2) (D2 := D2) (c := c) (y3 := y3) (y4 := sI (sI (sI (sI y3 11 c (nI v1)) 12 c (nI v2)) 13 c (nI v3)) 10 0 (nI (c + 1))) (a := nI v1) (b := nI v2) (d := nI v3) hD.1 (hD.2.1.cong (fun o h1 h2 => y3d o (by omega))) hc (by omega) (wr v1 0 100 hv1 (by omega) (by omega) (by rw [nI_0]; exact w1)) (wr v2 1 9 hv2 (by omega) (by omega) w2) (wr v3 0 9 hv3 (by omega) (by omega) (by rw [nI_0]; exact w3))
          ⟨by rw [D2a, upd_ne _ _ (by omega), upd_ne _ _ (by omega), upd_ne _ _ (by omega), upd_eq], by rw [D2a, show 42 + (3 * c + 1) = 42 + 3 * c + 1 by omega, upd_ne _ _ (by omega), upd_ne _ _ (by omega), upd_eq], by rw [D2a, show 42 + (3 * c + 2) = 42 + 3 * c + 2 by omega, upd_ne _ _ (by omega), upd_eq], by rw [D2a, upd_eq]⟩
          (fun i i1 i2 i3 i4 => by rw [D2a, upd_ne _ _ (by omega), upd_ne _ _ (by omega), upd_ne _ _ (by omega), upd_ne _ _ (by omega)]; rfl)
          ⟨by rw [sx_row_ne _ _ _ (by omega), sx_row_ne _ _ _ (by omega), sx_row_ne _ _ _ (by omega), sx_row], by rw [sx_row_ne _ _ _ (by omega), sx_row_ne _ _ _ (by omega), sx_row, sx_row_ne _ _ _ (by omega)], by rw [sx_row_ne _ _ _ (by omega), sx_row, sx_row_ne _ _ _ (by omega), sx_row_ne _ _ _ (by omega)], by rw [sx_row, sx_row_ne _ _ _ (by omega), sx_row_ne _ _ _ (by omega), sx_row_ne _ _ _ (by omega)]⟩
          (fun o h1 h2 => by rw [sx_row_ne _ _ _ (by omega), sx_row_ne _ _ _ (by omega), sx_row_ne _ _ _ (by omega), sx_row_ne _ _ _ (by omega)])
        refine ⟨_, _, j + 1 + 1 + 1, by omega, C1, C2, ((((A3.kd (by omega)).kd (by omega)).kd (by omega)).kd (by omega)).k2.k2, ⟨by rw [← hD2]; exact dr.1, by rw [← hD2]; exact dr.2.1, ?_⟩, ?_, mf_2 (mf_2 (mf_tr M2 (mf_fx f3)) (by omega)) (by omega), ?_⟩
        · rw [← hD2, dr.2.2]
          intro s h1 h2
          rw [sx_row_ne _ _ _ (by omega), sx_row_ne _ _ _ (by omega), sx_row_ne _ _ _ (by omega), sx_row_ne _ _ _ (by omega), y3d 16 (by omega)]
          exact hD.2.2 s h1 h2
        · rw [hy3]
          exact cf_d (cf_d (cf_d (cf_d (cf_8 (cf_8 (cf_8 (cf_rf y) (by omega)) (by omega)) (by omega)) (by omega)) (by omega)) (by omega)) (by omega)
        · rw [sx_row_ne _ _ _ (by omega), sx_row_ne _ _ _ (by omega), sx_row_ne _ _ _ (by omega), sx_row_ne _ _ _ (by omega), hy3, sx_row, upd_ne _ _ (by omega), sx_row, upd_ne _ _ (by omega), sx_row, upd_ne _ _ (by omega)]
      · right
        have k0 := A2k.fa hS hn
        unfold F3_readChild F7_readsItem
        simp (disch := omega) only [sx_let_e, gI_def, h0, r1, bind_e, if_pos (p0 v1 hv1), r2, if_pos (p0 v2 hv2), r3, if_neg g, e82, s1, s2, s3, Int32.add_zero, px_m3, px_a3, px_a24, px_a36, px_a42, px_m27, px_p1, px_p2, px_p3, nI_add, nI_clamp, sx_ixN, if_true, Bool.false_eq_true, if_false]
        exact ⟨_, _, j + 1 + 1, A2.1, rfl, rfl, by rw [sx_row, upd_eq], fa_2 (fa_2 k0), cf_8 (cf_8 (cf_rf y) (by omega)) (by omega), mf_2 (mf_2 (mf_8 M2) (by omega)) (by omega)⟩
    · right
      have k0 := A1k.fa hS hn
      have k1 : FA (P (j + 1)) (sI (sI (sI z1 2 (42 + 3 * c) (nI v1)) 0 8 (nI (P (j + 1)))) 2 (42 + 3 * c + 1) 0) := fa_2 k0
      unfold F3_readChild F7_readsItem
      simp (disch := omega) only [sx_let_e, gI_def, h0, r1, bind_e, if_pos (p0 v1 hv1), r2, if_neg g, e82, s1, s2, Int32.add_zero, px_m3, px_a3, px_a24, px_a36, px_a42, px_m27, px_p1, px_p2, px_p3, nI_add, nI_clamp, sx_ixN, if_true, Bool.false_eq_true, if_false, fa_number k1]
      exact ⟨_, _, j + 1, A1.1, rfl, rfl, by rw [sx_row, upd_eq], fa_2 (fa_2 k1), cf_8 (cf_rf y) (by omega), mf_2 (mf_2 (mf_2 (mf_8 M1) (by omega)) (by omega)) (by omega)⟩
  · right
    obtain ⟨z, q1, q2, q3, q4⟩ := child_bad1 h hS hn h0 (show c < 8 by omega) e82 r1 s1
    exact ⟨y, z, j, h.1, q1, q2, h.2.1, q3, cf_rf y, q4⟩
end CHILD
