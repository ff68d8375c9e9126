/-! both drafts at first -/
def mm_D0 : Nat → Int32 := fun i => if i = 38 then 1 else 0
section WIPE
variable {x m : SQ}
theorem X0pay {k : Nat} : Ev (F4_payNothing k x) (fun z => (∀ s, s < 4 → z.2.1 (k + 6) s = 0) ∧ Only (fun o => o = k + 6) x z.2) := by
  unfold F4_payNothing F4_payNothing_2
  refine Ev.loop (fun c s => ∃ y, s = (nI c, y) ∧ (∀ i, i < c → y.1 (k + 6) i = 0) ∧ Only (fun o => o = k + 6) x y) 4 (fun c s hc hI => ?_) (fun s hI => ?_) ⟨x, by rw [nI_0], fun i hi => by omega, Only.rf x⟩ (FU_gt (by omega))
  · obtain ⟨y, rfl, q, hO⟩ := hI
    have e4 : ¬ (4 : Int32) ≤ nI c := by rw [px_l4]; exact nI_ge hc (by omega)
    simp (disch := omega) only [F4_payNothing_2b, if_neg e4, Int32.add_zero, px_m3, px_a3, px_a24, px_a36, px_a42, px_m27, px_p1, px_p2, px_p3, nI_add, nI_clamp, sx_ixN, if_true, Bool.false_eq_true, if_false, sx_let, Option.bind_some, Option.map_some]
    refine Ev.ret (Or.inl ⟨_, rfl, _, rfl, fun i hi => ?_, hO.sI rfl⟩)
    rw [sx_row]
    by_cases e : i = c
    · rw [e, upd_eq]
    · rw [upd_ne _ _ e]
      exact q i (by omega)
  · obtain ⟨y, rfl, q, hO⟩ := hI
    have e4 : (4 : Int32) ≤ nI 4 := by rw [← px_l4]; exact Int32.le_refl _
    simp only [F4_payNothing_2b, if_pos e4]
    exact Ev.ret ⟨_, rfl, q, hO⟩
theorem D0_ok : okT mm_D0 := by
  have z : ∀ i, i ≠ 38 → mm_D0 i = 0 := fun i hi => by unfold mm_D0; rw [if_neg hi]
  have n1 : mm_nc mm_D0 = 0 := by unfold mm_nc; rw [z 40 (by omega)]; rfl
  have n2 : mm_ns mm_D0 = 0 := by unfold mm_ns; rw [z 41 (by omega)]; rfl
  unfold okT
  rw [n1, n2, z 40 (by omega), z 41 (by omega), z 36 (by omega), z 37 (by omega), z 39 (by omega), show mm_D0 38 = 1 from by unfold mm_D0; rw [if_pos rfl]]
  exact ⟨in_z _, in_z _, in_z _, in_z _, in_z _, Or.inr rfl, fun c hc => by omega, fun k hk => by omega⟩
theorem Xwipe : Ev (F4_wipe 10 x) (fun z => XT z.2 10 mm_D0 ∧ (∀ s, s < 4 → z.2.1 16 s = 0) ∧ Only (fun o => 10 ≤ o ∧ o ≤ 16) x z.2) := by
  have b1 : sx_bt (1 : Int32) = true := by decide
  have z : ∀ i, i ≠ 38 → mm_D0 i = 0 := fun i hi => by unfold mm_D0; rw [if_neg hi]
  have n1 : mm_nc mm_D0 = 0 := by unfold mm_nc; rw [z 40 (by omega)]; rfl
  have n2 : mm_ns mm_D0 = 0 := by unfold mm_ns; rw [z 41 (by omega)]; rfl
  unfold F4_wipe F4_schedule
  simp only [sx_let_e, if_pos b1, bind_e]
  obtain ⟨x1, hx1⟩ : ∃ x1, x1 = sI (sI (sI (sI (sI (sI x 10 0 0) 10 1 0) 10 8 0) 10 9 0) 10 11 1) 10 10 0 := ⟨_, rfl⟩
  rw [← hx1]
  obtain ⟨⟨u, y⟩, e, q, hO⟩ := X0pay (x := x1) (k := 10)
  simp only at q hO
  simp only [e, bind_e]
  have r : y.1 10 = x1.1 10 := hO.1 10 (by omega)
  refine Ev.ret ⟨?_, q, ?_⟩
  · unfold XT
    rw [n1, n2, z 40 (by omega), z 41 (by omega), z 36 (by omega), z 37 (by omega), z 39 (by omega), show mm_D0 38 = 1 from by unfold mm_D0; rw [if_pos rfl]]
    rw [r, hx1]
    refine ⟨?_, ?_, ?_, ?_, ?_, ?_, fun c hc => by omega, fun k hk => by omega⟩
    all_goals simp (disch := omega) only [sx_row, upd_ne, upd_eq]
  · refine Only.tr (y := x1) ?_ (hO.mono (fun o ho => by omega))
    rw [hx1]
    exact ((((((Only.rf x).sI (by omega)).sI (by omega)).sI (by omega)).sI (by omega)).sI (by omega)).sI (by omega)
/-- the model's told after drafts -/
theorem dD_dr {z : SQ} {T : Nat → Int32} (h : z.1 2 = mm_dr T 42) : ∀ j, j < 42 → dD z j = mm_D0 j := fun j hj => by
  unfold dD mm_D0
  rw [h, dr_at T hj]
end WIPE
