/-! an item: child -/
section CHILD
variable {t : Nat → Int32} {n K : Nat} {P : Nat → Nat} {C : Nat → Int32} {E : Nat → Nat} {j : Nat} {y n2 : SQ}
/-- the draft with one more child -/
theorem dr_child {D D2 : Nat → Int32} {c : Nat} {y3 y4 : SQ} {a b d : Int32} (hD : okT D) (hX : XT y3 10 D) (hc : c = mm_nc D) (h8 : c < 8) (ha : inN a 0 100) (hb : inN b 1 9) (hd : inN d 0 9)
    (e1 : D2 (3 * c) = a ∧ D2 (3 * c + 1) = b ∧ D2 (3 * c + 2) = d ∧ D2 40 = nI (c + 1)) (e2 : ∀ i, i ≠ 3 * c → i ≠ 3 * c + 1 → i ≠ 3 * c + 2 → i ≠ 40 → D2 i = D i)
    (f1 : y4.1 11 = upd (y3.1 11) c a ∧ y4.1 12 = upd (y3.1 12) c b ∧ y4.1 13 = upd (y3.1 13) c d ∧ y4.1 10 = upd (y3.1 10) 0 (nI (c + 1))) (f2 : ∀ o, 14 ≤ o → o ≤ 16 → y4.1 o = y3.1 o) : okT D2 ∧ XT y4 10 D2 ∧ mm_ns D2 = mm_ns D := by
  have n1 : mm_nc D2 = c + 1 := by unfold mm_nc; rw [e1.2.2.2]; exact nI_clamp (by omega)
  have n2 : mm_ns D2 = mm_ns D := by unfold mm_ns; rw [e2 41 (by omega) (by omega) (by omega) (by omega)]
  have h41 := hD.ns.2
  obtain ⟨a1, a2, a3, a4, a5, a6, a7, a8⟩ := hD
  obtain ⟨x1, x2, x3, x4, x5, x6, x7, x8⟩ := hX
  have g : ∀ i, 24 ≤ i → i ≠ 40 → D2 i = D i := fun i h1 h2 => e2 i (by omega) (by omega) (by omega) h2
  refine ⟨?_, ?_, n2⟩
  · unfold okT
    rw [n1, n2, e1.2.2.2, g 41 (by omega) (by omega), g 36 (by omega) (by omega), g 37 (by omega) (by omega), g 38 (by omega) (by omega), g 39 (by omega) (by omega)]
    refine ⟨⟨c + 1, by omega, by omega, rfl⟩, a2, a3, a4, a5, a6, fun i hi => ?_, fun k hk => ?_⟩
    · by_cases q : i = c
      · rw [q, e1.1, e1.2.1, e1.2.2.1]
        exact ⟨ha, hb, hd⟩
      · rw [e2 (3 * i) (by omega) (by omega) (by omega) (by omega), e2 (3 * i + 1) (by omega) (by omega) (by omega) (by omega), e2 (3 * i + 2) (by omega) (by omega) (by omega) (by omega)]
        exact a7 i (by omega)
    · rw [g (24 + 3 * k) (by omega) (by omega), g (24 + 3 * k + 1) (by omega) (by omega), g (24 + 3 * k + 2) (by omega) (by omega)]
      exact a8 k hk
  · unfold XT
    rw [n1, n2, e1.2.2.2, g 41 (by omega) (by omega), g 36 (by omega) (by omega), g 37 (by omega) (by omega), g 38 (by omega) (by omega), g 39 (by omega) (by omega), f1.1, f1.2.1, f1.2.2.1, f1.2.2.2, f2 14 (by omega) (by omega), f2 15 (by omega) (by omega), f2 16 (by omega) (by omega), upd_eq, upd_ne _ _ (by omega), upd_ne _ _ (by omega), upd_ne _ _ (by omega), upd_ne _ _ (by omega), upd_ne _ _ (by omega)]
    refine ⟨rfl, x2, x3, x4, x5, x6, fun i hi => ?_, fun k hk => ?_⟩
    · by_cases q : i = c
      · rw [q, e1.1, e1.2.1, e1.2.2.1, upd_eq, upd_eq, upd_eq]
        exact ⟨rfl, rfl, rfl⟩
      · rw [e2 (3 * i) (by omega) (by omega) (by omega) (by omega), e2 (3 * i + 1) (by omega) (by omega) (by omega) (by omega), e2 (3 * i + 2) (by omega) (by omega) (by omega) (by omega), upd_ne _ _ q, upd_ne _ _ q, upd_ne _ _ q]
        exact x7 i (by omega)
    · rw [g (24 + 3 * k) (by omega) (by omega), g (24 + 3 * k + 1) (by omega) (by omega), g (24 + 3 * k + 2) (by omega) (by omega)]
      exact x8 k hk
theorem child_bad1 (h : AT t n K P C E j y n2) (hS : Seq t n K P C E) (hn : n ≤ 400) {y0 : SQ} (h0 : sI y0 8 5 (y0.1 8 5 + 1) = y) {c : Nat} (h8 : c < 8) (e82 : n2.1 2 82 = nI c) (r1 : F3_readNumber 0 100 y = some (-1, y)) (s1 : F7_number 0 100 n2 = some (0, sI n2 0 8 (nI (P j)))) : ∃ z, F3_readChild y0 = some (0, y) ∧ F7_readsItem 0 n2 = some ((), z) ∧ FA (P j) z ∧ MF n2 z := by
  have f0 := h.fa hS hn
  have f1 : FA (P j) (sI (sI n2 0 8 (nI (P j))) 2 (42 + 3 * c) 0) := fa_2 f0
  have f2 : FA (P j) (sI (sI (sI n2 0 8 (nI (P j))) 2 (42 + 3 * c) 0) 2 (42 + 3 * c + 1) 0) := fa_2 f1
  have g : ¬ (0 : Int32) ≤ -1 := by decide
  unfold F3_readChild F7_readsItem
  simp (disch := omega) only [sx_let_e, h0, r1, bind_e, if_neg g, gI_def, e82, s1, Int32.add_zero, px_m3, px_a3, px_a24, px_a36, px_a42, px_m27, px_p1, px_p2, px_p3, nI_add, nI_clamp, sx_ixN, if_true, Bool.false_eq_true, if_false, fa_number f1, fa_number f2]
  exact ⟨_, rfl, rfl, fa_2 (fa_2 f2), mf_2 (mf_2 (mf_2 (mf_2 (mf_8 (mf_rf n2)) (by omega)) (by omega)) (by omega)) (by omega)⟩
theorem child_both (h : AT t n K P C E j y n2) (hS : Seq t n K P C E) (hn : n ≤ 400) (hD : DR y n2) (h8 : mm_nc (dD n2) < 8) {y0 : SQ} (h0 : sI y0 8 5 (y0.1 8 5 + 1) = y) :
    (∃ y' z' j', F3_readChild y0 = some (1, y') ∧ F7_readsItem 0 n2 = some ((), z') ∧ AT t n K P C E j' y' z' ∧ DR y' z' ∧ CF y y' ∧ MF n2 z' ∧ y'.1 8 6 = y.1 8 6) ∨
    (∃ y' z' j', j' ≤ K ∧ F3_readChild y0 = some (0, y') ∧ F7_readsItem 0 n2 = some ((), z') ∧ y'.1 8 5 = nI j' ∧ FA (P j') z' ∧ CF y y' ∧ MF n2 z') := by
  obtain ⟨c, hc⟩ : ∃ c, c = mm_nc (dD n2) := ⟨_, rfl⟩
  have e82 : n2.1 2 82 = nI c := by rw [hc]; exact hD.1.nc.1
  have p0 : ∀ v : Nat, v ≤ 100 → (0 : Int32) ≤ nI v := fun v hv => nI_pos' (by omega)
  have g : ¬ (0 : Int32) ≤ -1 := by decide
  rcases num_both (a := 0) (b := 100) h hS hn (by decide) with ⟨v1, z1, hv1, w1, r1, s1, f1, A1⟩ | ⟨r1, s1⟩
  · have A1k : AT t n K P C E (j + 1) (sI y 8 5 (nI (j + 1))) (sI z1 2 (42 + 3 * c) (nI v1)) := A1.k2
    have M1 : MF n2 (sI z1 2 (42 + 3 * c) (nI v1)) := mf_2 (mf_fx f1) (by omega)
    rcases num_both (a := 1) (b := 9) A1k hS hn (by decide) with ⟨v2, z2, hv2, w2, r2, s2, f2, A2⟩ | ⟨r2, s2⟩
    · sorry
    · right
      have k0 := A1k.fa hS hn
      have k1 : FA (P (j + 1)) (sI (sI (sI z1 2 (42 + 3 * c) (nI v1)) 0 8 (nI (P (j + 1)))) 2 (42 + 3 * c + 1) 0) := fa_2 k0
      unfold F3_readChild F7_readsItem
      simp (disch := omega) only [sx_let_e, gI_def, h0, r1, bind_e, if_pos (p0 v1 hv1), r2, if_neg g, e82, s1, s2, Int32.add_zero, px_m3, px_a3, px_a24, px_a36, px_a42, px_m27, px_p1, px_p2, px_p3, nI_add, nI_clamp, sx_ixN, if_true, Bool.false_eq_true, if_false, fa_number k1]
      exact ⟨_, _, j + 1, A1.1, rfl, rfl, by rw [sx_row, upd_eq], fa_2 (fa_2 k1), cf_8 (cf_rf y) (by omega), mf_2 (mf_2 (mf_2 (mf_8 M1) (by omega)) (by omega)) (by omega)⟩
  · right
    obtain ⟨z, q1, q2, q3, q4⟩ := child_bad1 h hS hn h0 (show c < 8 by omega) e82 r1 s1
    exact ⟨y, z, j, h.1, q1, q2, h.2.1, q3, cf_rf y, q4⟩
end CHILD
