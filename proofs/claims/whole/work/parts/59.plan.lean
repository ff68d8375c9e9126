/-! an item: plan -/
section PLAN
variable {t : Nat → Int32} {n K : Nat} {P : Nat → Nat} {C : Nat → Int32} {E : Nat → Nat} {j : Nat} {y n2 : SQ}
def mm_pl (D : Nat → Int32) (a b f w : Int32) : Nat → Int32 := upd (upd (upd (upd D 36 a) 37 b) 38 f) 39 w
theorem pl_far (D : Nat → Int32) (a b f w : Int32) {i : Nat} (h : i < 36 ∨ 39 < i) : mm_pl D a b f w i = D i := by
  unfold mm_pl
  rw [upd_ne _ _ (by omega), upd_ne _ _ (by omega), upd_ne _ _ (by omega), upd_ne _ _ (by omega)]
theorem pl_at (D : Nat → Int32) (a b f w : Int32) : mm_pl D a b f w 36 = a ∧ mm_pl D a b f w 37 = b ∧ mm_pl D a b f w 38 = f ∧ mm_pl D a b f w 39 = w := by
  unfold mm_pl
  refine ⟨by rw [upd_ne _ _ (by omega), upd_ne _ _ (by omega), upd_ne _ _ (by omega), upd_eq], by rw [upd_ne _ _ (by omega), upd_ne _ _ (by omega), upd_eq], by rw [upd_ne _ _ (by omega), upd_eq], by rw [upd_eq]⟩
theorem dr_plan {D : Nat → Int32} {y3 : SQ} {a b f w : Int32} (hD : okT D) (hX : XT y3 10 D) (ha : inN a 0 99) (hb : inN b 0 99) (hf : f = 0 ∨ f = 1) (hw : inN w 0 20) : okT (mm_pl D a b f w) ∧ XT (sI (sI (sI (sI y3 10 8 a) 10 9 b) 10 11 f) 10 10 w) 10 (mm_pl D a b f w) ∧ mm_ns (mm_pl D a b f w) = mm_ns D := by
  obtain ⟨p1, p2, p3, p4⟩ := pl_at D a b f w
  have n1 : mm_nc (mm_pl D a b f w) = mm_nc D := by unfold mm_nc; rw [pl_far _ _ _ _ _ (by omega)]
  have n2 : mm_ns (mm_pl D a b f w) = mm_ns D := by unfold mm_ns; rw [pl_far _ _ _ _ _ (by omega)]
  have h1 := hD.nc.2
  have h2 := hD.ns.2
  obtain ⟨a1, a2, a3, a4, a5, a6, a7, a8⟩ := hD
  obtain ⟨x1, x2, x3, x4, x5, x6, x7, x8⟩ := hX
  refine ⟨?_, ?_, n2⟩
  · unfold okT
    rw [n1, n2, p1, p2, p3, p4, pl_far _ _ _ _ _ (show 40 < 36 ∨ 39 < 40 by omega), pl_far _ _ _ _ _ (show 41 < 36 ∨ 39 < 41 by omega)]
    refine ⟨a1, a2, ha, hb, hw, hf, fun i hi => ?_, fun k hk => ?_⟩
    · rw [pl_far _ _ _ _ _ (show 3 * i < 36 ∨ 39 < 3 * i by omega), pl_far _ _ _ _ _ (show 3 * i + 1 < 36 ∨ 39 < 3 * i + 1 by omega), pl_far _ _ _ _ _ (show 3 * i + 2 < 36 ∨ 39 < 3 * i + 2 by omega)]
      exact a7 i hi
    · rw [pl_far _ _ _ _ _ (show 24 + 3 * k < 36 ∨ 39 < 24 + 3 * k by omega), pl_far _ _ _ _ _ (show 24 + 3 * k + 1 < 36 ∨ 39 < 24 + 3 * k + 1 by omega), pl_far _ _ _ _ _ (show 24 + 3 * k + 2 < 36 ∨ 39 < 24 + 3 * k + 2 by omega)]
      exact a8 k hk
  · have r : ∀ o, o ≠ 10 → (sI (sI (sI (sI y3 10 8 a) 10 9 b) 10 11 f) 10 10 w).1 o = y3.1 o := fun o ho => by
      rw [sx_row_ne _ _ _ ho, sx_row_ne _ _ _ ho, sx_row_ne _ _ _ ho, sx_row_ne _ _ _ ho]
    unfold XT
    rw [n1, n2, p1, p2, p3, p4, pl_far _ _ _ _ _ (show 40 < 36 ∨ 39 < 40 by omega), pl_far _ _ _ _ _ (show 41 < 36 ∨ 39 < 41 by omega), r (10 + 1) (by omega), r (10 + 2) (by omega), r (10 + 3) (by omega), r (10 + 4) (by omega), r (10 + 5) (by omega), r (10 + 6) (by omega)]
    refine ⟨?_, ?_, ?_, ?_, ?_, ?_, fun i hi => ?_, fun k hk => ?_⟩
    · simp (disch := omega) only [sx_row, upd_ne]; exact x1
    · simp (disch := omega) only [sx_row, upd_ne]; exact x2
    · simp (disch := omega) only [sx_row, upd_ne, upd_eq]
    · simp (disch := omega) only [sx_row, upd_ne, upd_eq]
    · simp (disch := omega) only [sx_row, upd_eq]
    · simp (disch := omega) only [sx_row, upd_ne, upd_eq]
    · rw [pl_far _ _ _ _ _ (show 3 * i < 36 ∨ 39 < 3 * i by omega), pl_far _ _ _ _ _ (show 3 * i + 1 < 36 ∨ 39 < 3 * i + 1 by omega), pl_far _ _ _ _ _ (show 3 * i + 2 < 36 ∨ 39 < 3 * i + 2 by omega)]
      exact x7 i hi
    · rw [pl_far _ _ _ _ _ (show 24 + 3 * k < 36 ∨ 39 < 24 + 3 * k by omega), pl_far _ _ _ _ _ (show 24 + 3 * k + 1 < 36 ∨ 39 < 24 + 3 * k + 1 by omega), pl_far _ _ _ _ _ (show 24 + 3 * k + 2 < 36 ∨ 39 < 24 + 3 * k + 2 by omega)]
      exact x8 k hk
/-- from behind "after" on -/
theorem plan_tail (h : AT t n K P C E j y n2) (hS : Seq t n K P C E) (hn : n ≤ 400) {a b f : Int32} (hf : f = 0 ∨ f = 1) :
    (∃ w y' z' j', j ≤ j' ∧ inN w 0 20 ∧ F3_readPlan_52 a b f y = some (1, sI (sI (sI (sI (sI y' 10 8 a) 10 9 b) 10 11 f) 10 10 w) 8 6 1) ∧ F7_readsItem_201 f 80 n2 = some ((), sI z' 2 81 w) ∧ AT t n K P C E j' y' z' ∧ CF y y' ∧ Fx (sI n2 2 80 f) z' ∧ (∀ o, o ≠ 8 → y'.1 o = y.1 o)) ∨
    (∃ y' z' j', j' ≤ K ∧ F3_readPlan_52 a b f y = some (0, y') ∧ F7_readsItem_201 f 80 n2 = some ((), z') ∧ y'.1 8 5 = nI j' ∧ FA (P j') z' ∧ CF y y' ∧ MF n2 z') := by
  have i8 : sx_ix (80 : Int32) 84 = true := by decide
  have i81 : sx_ix (81 : Int32) 84 = true := by decide
  have c80 : (80 : Int32).toNatClampNeg = 80 := by decide
  have c81 : (81 : Int32).toNatClampNeg = 81 := by decide
  have g : ¬ (0 : Int32) ≤ -1 := by decide
  have g0 : (0 : Int32) ≤ 0 := by decide
  have n1 : ¬ (1 : Int32) = 0 := by decide
  have hbt := sx_bt_of hf
  have ha : AT t n K P C E j y (sI n2 2 80 f) := h.k2
  have e4 : (-1 - nI 4 : Int32) = -5 := by decide
  have e44 : nI 4 = (4 : Int32) := by decide
  rcases word_both (w := 4) (by omega) ha hS hn with ⟨z1, r1, s1, f1, A1⟩ | ⟨r1, s1⟩
  · rw [e4] at r1
    rw [e44] at s1
    rcases num_both (a := 0) (b := 20) A1 hS hn (by decide) with ⟨v, z2, hv, w2, r2, s2, f2, A2⟩ | ⟨r2, s2⟩
    · left
      refine ⟨nI v, _, z2, j + 1 + 1, by omega, ?_, ?_, ?_, A2, cf_8 (cf_8 (cf_rf y) (by omega)) (by omega), fx_tr f1 f2, fun o ho => by rw [sx_row_ne _ _ _ ho, sx_row_ne _ _ _ ho]⟩
      · rcases wi_lit (nI v) (a := 0) (b := 20) (by omega) (by omega) 0 20 (by decide) (by decide) with ⟨i, i1, i2, i3, -⟩ | ⟨i1, -⟩
        · exact ⟨i, i1, i2, i3⟩
        · rw [i1] at w2; exact absurd w2 (by decide)
      · unfold F3_readPlan_52 F3_readPlan_73 F4_schedule
        simp only [r1, r2, bind_e, sx_let_e, if_neg n1, if_pos (nI_pos' (show v < 2 ^ 31 by omega)), if_pos hbt]
      · unfold F7_readsItem_201 F7_readsItem_227
        simp only [if_pos i8, if_pos i81, c80, c81, sx_let_e, s1, s2, bind_e, if_neg n1]
    · right
      have k0 := A1.fa hS hn
      refine ⟨_, sI (sI z1 0 8 (nI (P (j + 1)))) 2 81 0, j + 1, A1.1, ?_, ?_, by rw [sx_row, upd_eq], fa_2 k0, cf_8 (cf_rf y) (by omega), mf_2 (mf_8 (mf_tr (mf_2 (mf_rf n2) (show 42 ≤ 80 by omega)) (mf_fx f1))) (show 42 ≤ 81 by omega)⟩
      · unfold F3_readPlan_52 F3_readPlan_73
        simp only [r1, r2, bind_e, sx_let_e, if_neg n1, if_neg g]
      · unfold F7_readsItem_201 F7_readsItem_227
        simp only [if_pos i8, if_pos i81, c80, c81, sx_let_e, s1, s2, bind_e, if_neg n1]
  · rw [e4] at r1
    rw [e44] at s1
    left
    refine ⟨0, y, sI n2 2 80 f, j, by omega, in_z 20, ?_, ?_, ha, cf_rf y, fx_rf _, fun o ho => rfl⟩
    · unfold F3_readPlan_52 F3_readPlan_73 F4_schedule
      simp only [r1, bind_e, sx_let_e, if_true, if_pos g0, if_pos hbt]
    · unfold F7_readsItem_201 F7_readsItem_227
      simp only [if_pos i8, if_pos i81, c80, c81, sx_let_e, s1, bind_e, if_true]
end PLAN
