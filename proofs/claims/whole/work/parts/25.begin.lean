/-- not by rfl: the kernel would run loops of given length -/
theorem sx_let_e {α β : Type} (a : α) (f : α → β) : sx_let a f = f a := by
  have e : ∀ u : Unit, sx_let a f = f a := fun u => by cases u; rfl
  exact e ()
section CALLS3
variable {x m : SQ}
/-- begin: the course k as at first, on a day -/
theorem Xbegin {k r : Nat} {T : Nat → Int32} (S : Nat → Int32) (d : Int32) (h : XT x r T) (hT : okT T) (hk : ∀ o, r ≤ o → o ≤ r + 6 → ¬ (k ≤ o ∧ o ≤ k + 3)) : Ev (F0_begin k r d x) (fun z => XR z.2 k (mm_nc T) (upd (mm_begin T S) 0 d) ∧ Only (fun o => k ≤ o ∧ o ≤ k + 3) x z.2) := by
  have h40 := hT.nc.2
  unfold F0_begin
  simp only [sx_let_e]
  unfold F0_begin_13
  refine Ev.loop (fun c s => ∃ y, s = (nI c, y) ∧ y.1 k 0 = d ∧ y.1 k 1 = 100 ∧ (∀ i, i < c → y.1 (k + 1) i = x.1 (r + 1) i ∧ y.1 (k + 2) i = 0 ∧ y.1 (k + 3) i = 0) ∧ Only (fun o => k ≤ o ∧ o ≤ k + 3) x y) 8 (fun c s hc hI => ?_) (fun s hI => ?_) ⟨_, by rw [nI_0], ?_, ?_, fun i hi => by omega, ((Only.rf x).sI (by omega)).sI (by omega)⟩ (FU_gt (by omega))
  · obtain ⟨y, rfl, q0, q1, q2, hO⟩ := hI
    have e1 : y.1 (r + 1) = x.1 (r + 1) := hO.1 _ (hk _ (by omega) (by omega))
    have e8 : ¬ (8 : Int32) ≤ nI c := by rw [px_l8]; exact nI_ge hc (by omega)
    simp (disch := omega) only [F0_begin_13b, if_neg e8, Int32.add_zero, px_m3, px_a3, px_a24, px_a36, px_a42, px_m27, px_p1, px_p2, px_p3, nI_add, nI_clamp, sx_ixN, if_true, Bool.false_eq_true, if_false, sx_let, Option.bind_some, Option.map_some, gI_def, e1]
    refine Ev.ret (Or.inl ⟨_, rfl, _, rfl, ?_, ?_, fun i hi => ?_, ((hO.sI (by omega)).sI (by omega)).sI (by omega)⟩)
    · rw [sx_row_ne _ _ _ (by omega), sx_row_ne _ _ _ (by omega), sx_row_ne _ _ _ (by omega)]; exact q0
    · rw [sx_row_ne _ _ _ (by omega), sx_row_ne _ _ _ (by omega), sx_row_ne _ _ _ (by omega)]; exact q1
    · rw [sx_row_ne _ _ _ (show k + 1 ≠ k + 3 by omega), sx_row_ne _ _ _ (show k + 1 ≠ k + 2 by omega), sx_row, sx_row_ne _ _ _ (show k + 2 ≠ k + 3 by omega), sx_row, sx_row, sx_row_ne _ _ _ (show k + 2 ≠ k + 1 by omega), sx_row_ne _ _ _ (show k + 3 ≠ k + 2 by omega), sx_row_ne _ _ _ (show k + 3 ≠ k + 1 by omega)]
      by_cases e : i = c
      · subst e
        exact ⟨upd_eq _ _ _, upd_eq _ _ _, upd_eq _ _ _⟩
      · rw [upd_ne _ _ e, upd_ne _ _ e, upd_ne _ _ e]
        exact q2 i (by omega)
  · obtain ⟨y, rfl, q0, q1, q2, hO⟩ := hI
    have e8 : (8 : Int32) ≤ nI 8 := by rw [← px_l8]; exact Int32.le_refl _
    simp only [F0_begin_13b, if_pos e8]
    refine Ev.ret ⟨_, rfl, ⟨?_, ?_, fun c hc => ?_⟩, hO⟩
    · rw [upd_eq]; exact q0
    · rw [upd_ne _ _ (by omega), (begin_0 T S).2.1]; exact q1
    · obtain ⟨b1, b2, b3⟩ := begin_at T S (show c < 8 by omega)
      rw [upd_ne _ _ (by omega), upd_ne _ _ (by omega), upd_ne _ _ (by omega), b1, b2, b3, ← (h.2.2.2.2.2.2.1 c hc).1]
      exact q2 c (by omega)
  · rw [sx_row, upd_ne _ _ (by omega), sx_row, upd_eq]
  · rw [sx_row, upd_eq]
theorem Mbegins {r : Nat} (hr : 3 < r) : F7_begins r m = some ((), sA m r (mm_begin (m.1 2) (m.1 r))) := by
  unfold F7_begins
  simp only [sx_let_e]
  unfold F7_begins_11
  refine Ev.up (S := fun c => (nI c, sA m r (mm_beg (m.1 2) (upd (upd (m.1 r) 0 0) 1 100) c))) (N := 8) (fun c hc => ?_) ?_ (FU_gt (by omega)) ?_
  · have e8 : ¬ (8 : Int32) ≤ nI c := by rw [px_l8]; exact nI_ge hc (by omega)
    simp (disch := omega) only [F7_begins_11b, if_neg e8, Int32.add_zero, px_m3, px_a3, px_a24, px_a36, px_a42, px_m27, px_p1, px_p2, px_p3, nI_add, nI_clamp, sx_ixN, if_true, Bool.false_eq_true, if_false, sx_let, Option.bind_some, Option.map_some, gI_def, sI_sA, sA_ne, sA_eq, mm_beg, mm_put]
  · have e8 : (8 : Int32) ≤ nI 8 := by rw [← px_l8]; exact Int32.le_refl _
    simp only [F7_begins_11b, if_pos e8, Option.map_some]
    rw [mm_begin]
  · rw [nI_0, mm_beg, sI_as m, sI_sA]
end CALLS3
