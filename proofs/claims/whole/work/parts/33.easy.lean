/-! easy -/
theorem Ev2.mapr {α β γ δ : Type} {a : Option α} {b : Option β} {P : α → β → Prop} (h : Ev2 a b P) : Ev2 (a.map (Sum.inr (α := γ))) (b.map (Sum.inr (α := δ))) (fun x y => ∃ u v, x = .inr u ∧ y = .inr v ∧ P u v) := by
  obtain ⟨r, t, e1, e2, hp⟩ := h
  rw [e1, e2]
  exact ⟨_, _, rfl, rfl, r, t, rfl, rfl, hp⟩
section EASY
variable {x m : SQ}
theorem easy_in (h : RR x m) (v : Int32) : Ev2 (F6_easy_48 v 0 0 x) (F7_easy_61 v 0 0 m) (fun r t => r.1 = t.1 ∧ RR r.2 t.2) := by
  have hT := h.1.1
  have h16 := h.2.2.2.2.2.2.2.2
  obtain ⟨e40, h40⟩ := hT.nc
  have ex : x.1 1 0 = nI (mm_nc (m.1 2)) := h.1.2.1.trans e40
  unfold F6_easy_48 F7_easy_61
  refine Ev2.loop (fun k s t => ∃ r, s = (r, nI k, x) ∧ t = (r, nI k, m)) (mm_nc (m.1 2)) (fun k s t hk hI => ?_) (fun s t hI => ?_) ⟨0, by rw [nI_0], by rw [nI_0]⟩ (FU_gt (by omega))
  · obtain ⟨r, rfl, rfl⟩ := hI
    have hm := Mchoice (m := m) (r := 4) (c := k) (day := m.1 4 0) (by omega) hT
    rw [h16] at hm
    simp only [F6_easy_48b, F6_easy_84, F7_easy_61b, F7_easy_97, gI_def, ex, e40, if_neg (nI_ge hk (show mm_nc (m.1 2) < 2 ^ 31 by omega)), h.2.1 0 (by omega), Xchoice h.1.2 h.2.2.1.1 hT hk, hm, sx_let_e, bind_e, px_p1]
    by_cases q : mm_choice (m.1 2) 0 (m.1 3 0) (m.1 4) k (m.1 4 0) = v
    · simp only [if_pos q]
      exact Ev2.ret ⟨_, _, rfl, rfl, r + 1, rfl, rfl⟩
    · simp only [if_neg q, Int32.add_zero]
      exact Ev2.ret ⟨_, _, rfl, rfl, r, rfl, rfl⟩
  · obtain ⟨r, rfl, rfl⟩ := hI
    simp only [F6_easy_48b, F7_easy_61b, gI_def, ex, e40, if_pos (nI_le (Nat.le_refl (mm_nc (m.1 2))) (show mm_nc (m.1 2) < 2 ^ 31 by omega))]
    exact Ev2.ret ⟨_, _, rfl, rfl, rfl, h⟩
theorem easy_bo (h : RR x m) : Bo (F6_easy x) (F7_easy m) := by
  unfold F7_easy
  simp only [sx_let_e]
  have h := h.t0
  generalize sI m 0 0 0 = m at h ⊢
  have hT := h.1.1
  obtain ⟨e41, h41⟩ := hT.ns
  have ex : x.1 1 1 = nI (mm_ns (m.1 2)) := h.1.2.2.1.trans e41
  unfold F6_easy F6_easy_4 F7_easy_9
  refine Ev2.bo (Ev2.loop (fun k s t => ∃ v, s = (nI v, nI (k + 1), x) ∧ t = (nI v, nI (k + 1), m) ∧ v < 4 ∧ (v = 0 ∨ v < mm_ns (m.1 2))) (mm_ns (m.1 2) - 1) (fun k s t hk hI => ?_) (fun s t hI => ?_) ⟨0, by rw [nI_0, show nI (0 + 1) = (1 : Int32) from by decide], by rw [nI_0, show nI (0 + 1) = (1 : Int32) from by decide], by omega, Or.inl rfl⟩ (FU_gt (by omega)))
  · obtain ⟨v, rfl, rfl, hv, hv2⟩ := hI
    have t1 := (h.1.2.2.2.2.2.2.2.2 v (by omega)).1
    have t2 := (h.1.2.2.2.2.2.2.2.2 (k + 1) (by omega)).1
    simp (disch := omega) only [F6_easy_4b, F6_easy_38, F7_easy_9b, F7_easy_50, gI_def, ex, e41, if_neg (nI_ge (show k + 1 < mm_ns (m.1 2) by omega) (show mm_ns (m.1 2) < 2 ^ 31 by omega)), Int32.add_zero, px_m3, px_a3, px_a24, px_a36, px_a42, px_m27, px_p1, px_p2, px_p3, nI_add, nI_clamp, sx_ixN, if_true, Bool.false_eq_true, if_false, t1, t2, sx_let_e]
    by_cases q : m.1 2 (24 + 3 * v) ≤ m.1 2 (24 + 3 * (k + 1))
    · simp only [if_pos q]
      exact Ev2.ret ⟨_, _, rfl, rfl, v, rfl, rfl, hv, hv2⟩
    · simp only [if_neg q]
      exact Ev2.ret ⟨_, _, rfl, rfl, k + 1, rfl, rfl, by omega, by omega⟩
  · obtain ⟨v, rfl, rfl, hv, hv2⟩ := hI
    simp only [F6_easy_4b, F7_easy_9b, gI_def, ex, e41, if_pos (nI_le (show mm_ns (m.1 2) ≤ mm_ns (m.1 2) - 1 + 1 by omega) (show mm_ns (m.1 2) - 1 + 1 < 2 ^ 31 by omega))]
    exact (easy_in h (nI v)).mapr
end EASY
