/-! the ; behind an item -/
section SEMI
variable {t : Nat → Int32} {n K : Nat} {P : Nat → Nat} {C : Nat → Int32} {E : Nat → Nat} {j : Nat} {y n2 : SQ}
theorem fa_181 {f : Nat} {v1 v2 : Int32} (h : FA f n2) : F7_chart_181 v1 v2 n2 = some (.inl (v1 + 1, v2, n2)) := by
  unfold F7_chart_181 F7_chart_195
  simp only [fa_takes h, bind_e, sx_let_e, ite_self]
theorem semi_both {v1 v2 : Int32} (h : AT t n K P C E j y n2) (hS : Seq t n K P C E) (hn : n ≤ 400) :
    (∃ z, F3_readWord (-7) y = some (1, sI y 8 5 (nI (j + 1))) ∧ F7_chart_181 v1 v2 n2 = some (.inl (v1 + 1, v2, z)) ∧ Fx n2 z ∧ AT t n K P C E (j + 1) (sI y 8 5 (nI (j + 1))) z) ∨
    (F3_readWord (-7) y = some (0, y) ∧ F7_chart_181 v1 v2 n2 = some (.inl (v1 + 1, v2, sI n2 0 8 (nI (P j))))) := by
  have hr : F3_readWord (-7) y = if C j = -7 then some (1, sI y 8 5 (nI (j + 1))) else some (0, y) := by
    unfold F3_readWord
    simp only [Xseen h hS hn, bind_e, sx_let_e, gI_def, h.2.1, px_p1]
  have no : ¬ C j = -7 → ¬ n2.1 0 5 = 3 → F3_readWord (-7) y = some (0, y) ∧ F7_chart_181 v1 v2 n2 = some (.inl (v1 + 1, v2, sI n2 0 8 (nI (P j)))) := fun a b => by
    rw [hr, if_neg a]
    refine ⟨rfl, ?_⟩
    unfold F7_chart_181 F7_chart_195
    simp only [gI_def, if_neg b, Mtake0 h, bind_e, sx_let_e]
  rcases h.2.2.2.2.2.2.2.2.2 with ⟨c1, c2⟩ | ⟨c1, c2⟩ | ⟨c1, c2⟩ | ⟨w, c0, c1, c2, c3⟩ | ⟨v, c0, c1, c2, c3⟩
  · exact Or.inr (no (by rw [c1]; decide) (by rw [c2]; decide))
  · have hj := h.lt hS (by rw [c1]; decide)
    obtain ⟨z, e, f1, f2⟩ := Mtake1 h hS hj
    refine Or.inl ⟨z, by rw [hr, if_pos c1], ?_, f1, f2⟩
    unfold F7_chart_181 F7_chart_195
    simp only [gI_def, if_pos c2, e, bind_e, sx_let_e]
  · exact Or.inr (no (by rw [c1]; decide) (by rw [c2]; decide))
  · refine Or.inr (no ?_ (by rw [c2]; decide))
    rw [c1]
    rcases (show w = 0 ∨ w = 1 ∨ w = 2 ∨ w = 3 ∨ w = 4 ∨ w = 5 by omega) with rfl | rfl | rfl | rfl | rfl | rfl <;> decide
  · refine Or.inr (no ?_ (by rw [c2]; decide))
    rw [c1]
    exact fun z => nI_pos (show v < 2 ^ 31 by omega) (by rw [z]; decide)
end SEMI
