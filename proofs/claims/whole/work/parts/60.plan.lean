section PLAN2
variable {t : Nat → Int32} {n K : Nat} {P : Nat → Nat} {C : Nat → Int32} {E : Nat → Nat} {j : Nat} {y n2 : SQ}
theorem AT.k86 (h : AT t n K P C E j y n2) {v : Int32} : AT t n K P C E j (sI y 8 6 v) n2 := by
  unfold AT at h ⊢
  rw [sx_row_ne _ _ _ (show 17 ≠ 8 by omega), sx_row_ne _ _ _ (show 18 ≠ 8 by omega), sx_row, upd_ne _ _ (show 5 ≠ 6 by omega), upd_ne _ _ (show 0 ≠ 6 by omega)]
  exact h
theorem pl_dD {f w a b : Int32} {z : SQ} (hz : z.1 2 = upd (upd (upd (n2.1 2) 78 a) 79 b) 80 f) : dD (sI z 2 81 w) = mm_pl (dD n2) a b f w := by
  funext i
  unfold dD mm_pl
  rw [sx_row, hz]
  by_cases q : i = 39
  · subst q
    rw [upd_eq, upd_eq]
  · rw [upd_ne _ _ (show 42 + i ≠ 81 by omega), upd_ne _ _ q]
    by_cases q1 : i = 38
    · subst q1
      rw [upd_eq, upd_eq]
    · rw [upd_ne _ _ (show 42 + i ≠ 80 by omega), upd_ne _ _ q1]
      by_cases q2 : i = 37
      · subst q2
        rw [upd_eq, upd_eq]
      · rw [upd_ne _ _ (show 42 + i ≠ 79 by omega), upd_ne _ _ q2]
        by_cases q3 : i = 36
        · subst q3
          rw [upd_eq, upd_eq]
        · rw [upd_ne _ _ (show 42 + i ≠ 78 by omega), upd_ne _ _ q3]
theorem plan_fin (hS : Seq t n K P C E) (hn : n ≤ 400) (hD : DR y n2) {y0 yk nk : SQ} {jk : Nat} (hjk : j ≤ jk) {a b f : Int32} (ha : inN a 0 99) (hb : inN b 0 99) (hf : f = 0 ∨ f = 1) (hA : AT t n K P C E jk yk nk) (hc : CF y yk) (ho : ∀ o, o ≠ 8 → yk.1 o = y.1 o) (h2 : nk.1 2 = upd (upd (n2.1 2) 78 a) 79 b) (hM : MF n2 nk) (eX : F3_readPlan y0 = F3_readPlan_52 a b f yk) (eM : F7_readsItem 2 n2 = F7_readsItem_201 f 80 nk) :
    (∃ y' z' j', j ≤ j' ∧ F3_readPlan y0 = some (1, y') ∧ F7_readsItem 2 n2 = some ((), z') ∧ AT t n K P C E j' y' z' ∧ DR y' z' ∧ CF y y' ∧ MF n2 z' ∧ y'.1 8 6 = 1) ∨
    (∃ y' z' j', j' ≤ K ∧ F3_readPlan y0 = some (0, y') ∧ F7_readsItem 2 n2 = some ((), z') ∧ y'.1 8 5 = nI j' ∧ FA (P j') z' ∧ CF y y' ∧ MF n2 z') := by
  rcases plan_tail (a := a) (b := b) hA hS hn hf with ⟨w, y', z', j', hj', hw, e1, e2, A', cf', fx', yo⟩ | ⟨y', z', j', q1, q2, q3, q4, q5, q6, q7⟩
  · left
    have hz : z'.1 2 = upd (upd (upd (n2.1 2) 78 a) 79 b) 80 f := by rw [fx'.1 2 (by omega), sx_row, h2]
    have hX : XT y' 10 (dD n2) := hD.2.1.cong (fun o h1 h2 => by rw [yo o (by omega), ho o (by omega)])
    obtain ⟨d1, d2, d3⟩ := dr_plan (a := a) (b := b) (f := f) (w := w) hD.1 hX ha hb hf hw
    have cf2 : CF y y' := ⟨hc.1.tr cf'.1, cf'.2.trans hc.2⟩
    refine ⟨_, _, j', by omega, eX.trans e1, eM.trans e2, ((((A'.kd (by omega)).kd (by omega)).kd (by omega)).kd (by omega)).k86.k2, ⟨by rw [pl_dD hz]; exact d1, by rw [pl_dD hz]; exact d2.cong (fun o h1 h2 => sx_row_ne _ _ _ (by omega)), ?_⟩, cf_8 (cf_d (cf_d (cf_d (cf_d cf2 (by omega)) (by omega)) (by omega)) (by omega)) (by omega), mf_2 (mf_tr (mf_2 hM (show 42 ≤ 80 by omega)) (mf_fx fx')) (by omega), by rw [sx_row, upd_eq]⟩
    rw [pl_dD hz, d3]
    intro s h1 h2
    rw [sx_row_ne _ _ _ (by omega), sx_row_ne _ _ _ (by omega), sx_row_ne _ _ _ (by omega), sx_row_ne _ _ _ (by omega), sx_row_ne _ _ _ (by omega), yo 16 (by omega), ho 16 (by omega)]
    exact hD.2.2 s h1 h2
  · right
    exact ⟨y', z', j', q1, eX.trans q2, eM.trans q3, q4, q5, ⟨hc.1.tr q6.1, q6.2.trans hc.2⟩, mf_tr hM q7⟩
theorem plan_both (h : AT t n K P C E j y n2) (hS : Seq t n K P C E) (hn : n ≤ 400) (hD : DR y n2) {y0 : SQ} (h0 : sI y0 8 5 (y0.1 8 5 + 1) = y) :
    (∃ y' z' j', j ≤ j' ∧ F3_readPlan y0 = some (1, y') ∧ F7_readsItem 2 n2 = some ((), z') ∧ AT t n K P C E j' y' z' ∧ DR y' z' ∧ CF y y' ∧ MF n2 z' ∧ y'.1 8 6 = 1) ∨
    (∃ y' z' j', j' ≤ K ∧ F3_readPlan y0 = some (0, y') ∧ F7_readsItem 2 n2 = some ((), z') ∧ y'.1 8 5 = nI j' ∧ FA (P j') z' ∧ CF y y' ∧ MF n2 z') := by
  have p0 : ∀ v : Nat, v ≤ 100 → (0 : Int32) ≤ nI v := fun v hv => nI_pos' (by omega)
  have g : ¬ (0 : Int32) ≤ -1 := by decide
  have g0 : ¬ (2 : Int32) = 0 := by decide
  have g1 : ¬ (2 : Int32) = 1 := by decide
  have n1 : ¬ (1 : Int32) = 0 := by decide
  have e3 : (-1 - nI 3 : Int32) = -4 := by decide
  have e33 : nI 3 = (3 : Int32) := by decide
  have i8 : sx_ix (80 : Int32) 84 = true := by decide
  have i81 : sx_ix (81 : Int32) 84 = true := by decide
  have c81 : (81 : Int32).toNatClampNeg = 81 := by decide
  have c80 : (80 : Int32).toNatClampNeg = 80 := by decide
  have l99 : (99 : Int32) = nI 99 := by decide
  rcases num_both (a := 0) (b := 99) h hS hn (by decide) with ⟨v1, z1, hv1, w1, r1, s1, f1, A1⟩ | ⟨r1, s1⟩
  · have A1k : AT t n K P C E (j + 1) (sI y 8 5 (nI (j + 1))) (sI z1 2 78 (nI v1)) := A1.k2
    have M1 : MF n2 (sI z1 2 78 (nI v1)) := mf_2 (mf_fx f1) (by omega)
    have x78 : (sI z1 2 78 (nI v1)).1 2 78 = nI v1 := by rw [sx_row, upd_eq]
    have i1 : inN (nI v1) 0 99 := wr_in (by omega) (by omega) (by rw [nI_0, ← l99]; exact w1)
    rcases num_both (a := nI v1) (b := 99) A1k hS hn (p0 v1 hv1) with ⟨v2, z2, hv2, w2, r2, s2, f2, A2⟩ | ⟨r2, s2⟩
    · have A2k : AT t n K P C E (j + 1 + 1) (sI (sI y 8 5 (nI (j + 1))) 8 5 (nI (j + 1 + 1))) (sI z2 2 79 (nI v2)) := A2.k2
      have M2 : MF n2 (sI z2 2 79 (nI v2)) := mf_2 (mf_tr M1 (mf_fx f2)) (by omega)
      have hv1b : v1 ≤ 99 := by
        obtain ⟨i, -, i2, i3⟩ := i1
        have := (nI_eq (by omega) (by omega)).mp i3
        omega
      have i2 : inN (nI v2) 0 99 := (wr_in (a := v1) (b := 99) hv1b (by omega) (by rw [← l99]; exact w2)).lo
      have hr2 : (sI z2 2 79 (nI v2)).1 2 = upd (upd (n2.1 2) 78 (nI v1)) 79 (nI v2) := by rw [sx_row, f2.1 2 (by omega), sx_row, f1.1 2 (by omega)]
      have cf2 : CF y (sI (sI y 8 5 (nI (j + 1))) 8 5 (nI (j + 1 + 1))) := cf_8 (cf_8 (cf_rf y) (by omega)) (by omega)
      rcases word_both (w := 3) (by omega) A2k hS hn with ⟨z3, r3, s3, f3, A3⟩ | ⟨r3, s3⟩
      · rw [e3] at r3
        rw [e33] at s3
        refine plan_fin (f := 0) hS hn hD (by omega) i1 i2 (Or.inl rfl) A3 (cf_8 cf2 (by omega)) (fun o ho => by rw [sx_row_ne _ _ _ ho, sx_row_ne _ _ _ ho, sx_row_ne _ _ _ ho]) (by rw [f3.1 2 (by omega), hr2]) (mf_tr M2 (mf_fx f3)) ?_ ?_
        · unfold F3_readPlan
          simp only [sx_let_e, gI_def, h0, r1, bind_e, if_pos (p0 v1 hv1), r2, if_pos (p0 v2 hv2), r3, if_neg n1]
        · unfold F7_readsItem
          simp only [sx_let_e, gI_def, bind_e, if_neg g0, if_neg g1, if_true, s1, x78, s2, s3, if_neg n1]
      · rw [e3] at r3
        rw [e33] at s3
        refine plan_fin (f := 1) hS hn hD (by omega) i1 i2 (Or.inr rfl) A2k cf2 (fun o ho => by rw [sx_row_ne _ _ _ ho, sx_row_ne _ _ _ ho]) hr2 M2 ?_ ?_
        · unfold F3_readPlan
          simp only [sx_let_e, gI_def, h0, r1, bind_e, if_pos (p0 v1 hv1), r2, if_pos (p0 v2 hv2), r3, if_true]
        · unfold F7_readsItem
          simp only [sx_let_e, gI_def, bind_e, if_neg g0, if_neg g1, if_true, s1, x78, s2, s3]
    · right
      have k0 := A1k.fa hS hn
      have k1 : FA (P (j + 1)) (sI (sI (sI z1 2 78 (nI v1)) 0 8 (nI (P (j + 1)))) 2 79 0) := fa_2 k0
      have k2 : FA (P (j + 1)) (sI (sI (sI (sI z1 2 78 (nI v1)) 0 8 (nI (P (j + 1)))) 2 79 0) 2 80 1) := fa_2 k1
      refine ⟨sI y 8 5 (nI (j + 1)), sI (sI (sI (sI (sI z1 2 78 (nI v1)) 0 8 (nI (P (j + 1)))) 2 79 0) 2 80 1) 2 81 0, j + 1, A1.1, ?_, ?_, by rw [sx_row, upd_eq], fa_2 k2, cf_8 (cf_rf y) (by omega), mf_2 (mf_2 (mf_2 (mf_8 M1) (by omega)) (by omega)) (by omega)⟩
      · unfold F3_readPlan
        simp only [sx_let_e, gI_def, h0, r1, bind_e, if_pos (p0 v1 hv1), r2, if_neg g]
      · unfold F7_readsItem F7_readsItem_201 F7_readsItem_227
        simp only [sx_let_e, gI_def, bind_e, if_neg g0, if_neg g1, if_true, s1, x78, s2, fa_word k1, fa_word k2, if_pos i8, if_pos i81, c80, c81]
  · right
    have k0 := h.fa hS hn
    have ka : FA (P j) (sI (sI n2 0 8 (nI (P j))) 2 78 0) := fa_2 k0
    have k1 : FA (P j) (sI (sI (sI n2 0 8 (nI (P j))) 2 78 0) 2 79 0) := fa_2 ka
    have k2 : FA (P j) (sI (sI (sI (sI n2 0 8 (nI (P j))) 2 78 0) 2 79 0) 2 80 1) := fa_2 k1
    refine ⟨y, sI (sI (sI (sI (sI n2 0 8 (nI (P j))) 2 78 0) 2 79 0) 2 80 1) 2 81 0, j, h.1, ?_, ?_, h.2.1, fa_2 k2, cf_rf y, mf_2 (mf_2 (mf_2 (mf_2 (mf_8 (mf_rf n2)) (by omega)) (by omega)) (by omega)) (by omega)⟩
    · unfold F3_readPlan
      simp only [sx_let_e, gI_def, h0, r1, bind_e, if_neg g]
    · unfold F7_readsItem F7_readsItem_201 F7_readsItem_227
      simp only [sx_let_e, gI_def, bind_e, if_neg g0, if_neg g1, if_true, s1, fa_number ka, fa_word k1, fa_word k2, if_pos i8, if_pos i81, c80, c81]
end PLAN2
