/-! the two states at first agree -/
section START
variable {x m : SQ}
theorem Xwipe1 : Ev (F4_wipe 1 x) (fun z => XT z.2 1 mm_D0 ∧ Only (fun o => 1 ≤ o ∧ o ≤ 7) x z.2) := by
  have b1 : sx_bt (1 : Int32) = true := by decide
  have z : ∀ i, i ≠ 38 → mm_D0 i = 0 := fun i hi => by unfold mm_D0; rw [if_neg hi]
  have n1 : mm_nc mm_D0 = 0 := by unfold mm_nc; rw [z 40 (by omega)]; rfl
  have n2 : mm_ns mm_D0 = 0 := by unfold mm_ns; rw [z 41 (by omega)]; rfl
  unfold F4_wipe F4_schedule
  simp only [sx_let_e, if_pos b1, bind_e]
  obtain ⟨x1, hx1⟩ : ∃ x1, x1 = sI (sI (sI (sI (sI (sI x 1 0 0) 1 1 0) 1 8 0) 1 9 0) 1 11 1) 1 10 0 := ⟨_, rfl⟩
  rw [← hx1]
  obtain ⟨⟨u, y⟩, e, q, hO⟩ := X0pay (x := x1) (k := 1)
  simp only at q hO
  simp only [e, bind_e]
  have r : y.1 1 = x1.1 1 := hO.1 1 (by omega)
  refine Ev.ret ⟨?_, ?_⟩
  · unfold XT
    rw [n1, n2, z 40 (by omega), z 41 (by omega), z 36 (by omega), z 37 (by omega), z 39 (by omega), show mm_D0 38 = 1 from by unfold mm_D0; rw [if_pos rfl]]
    rw [r, hx1]
    refine ⟨?_, ?_, ?_, ?_, ?_, ?_, fun c hc => by omega, fun k hk => by omega⟩
    all_goals simp (disch := omega) only [sx_row, upd_ne, upd_eq]
  · refine Only.tr (y := x1) ?_ (hO.mono (fun o ho => by omega))
    rw [hx1]
    exact ((((((Only.rf x).sI (by omega)).sI (by omega)).sI (by omega)).sI (by omega)).sI (by omega)).sI (by omega)
theorem tunes_first : ∀ j : Fin 6, tFirst j.val = (qM7.1 3) j.val := by decide +kernel
theorem qX_23 : ∀ j : Fin 6, qX3.1 23 j.val = tFirst j.val := by decide +kernel
theorem RR_start : ∃ q4 q5 q1 q2 : SQ, F4_wipe 1 qX3 = some ((), q4) ∧ F0_begin 19 1 0 q4 = some ((), q5) ∧ F7_drafts qM7 = some ((), q1) ∧ F7_adopts q1 = some ((), q2) ∧ RR q5 q2 := by
  obtain ⟨⟨u4, q4⟩, e4, X4, O4⟩ := Xwipe1 (x := qX3)
  simp only at X4 O4
  obtain ⟨⟨u5, q5⟩, e5, R5, O5⟩ := Xbegin (qM7.1 4) 0 (k := 19) X4 D0_ok (fun o h1 h2 => by omega)
  simp only at R5 O5
  rw [upd_self (begin_0 _ _).1] at R5
  obtain ⟨q1, hq1⟩ : ∃ q1, q1 = sA qM7 2 (mm_dr (qM7.1 2) 42) := ⟨_, rfl⟩
  have e1 := Mdrafts (m := qM7)
  rw [← hq1] at e1
  have e2 := Madopts (m := q1)
  obtain ⟨A, hA⟩ : ∃ A, A = mm_ad (q1.1 2) 42 := ⟨_, rfl⟩
  rw [← hA] at e2
  obtain ⟨q2, hq2⟩ : ∃ q2, q2 = sA (sI (sI (sA q1 2 A) 6 0 0) 6 1 0) 4 (mm_begin A (q1.1 4)) := ⟨_, rfl⟩
  rw [← hq2] at e2
  refine ⟨q4, q5, q1, q2, e4, e5, e1, e2, ?_⟩
  have eA : ∀ j, j < 42 → A j = mm_D0 j := fun j hj => by
    rw [hA, ad_lt _ hj, hq1, sA_eq]
    unfold mm_D0
    exact dr_at _ hj
  have okA := D0_ok.cong eA
  have enc : mm_nc A = mm_nc mm_D0 := by unfold mm_nc; rw [eA 40 (by omega)]
  have q14 : q1.1 4 = qM7.1 4 := by rw [hq1, sA_ne _ _ (by omega)]
  have ebg : mm_begin A (q1.1 4) = mm_begin mm_D0 (qM7.1 4) := by
    rw [q14]
    unfold mm_begin
    exact beg_cong (fun c hc => eA (3 * c) (by omega)) 8 (Nat.le_refl 8)
  have E2 : q2.1 2 = A := by rw [hq2, sA_ne _ _ (by omega), sx_row_ne _ _ _ (by omega), sx_row_ne _ _ _ (by omega), sA_eq]
  have E4 : q2.1 4 = mm_begin A (q1.1 4) := by rw [hq2, sA_eq]
  have E6 : q2.1 6 0 = 0 ∧ q2.1 6 1 = 0 := by
    rw [hq2, sA_ne _ _ (by omega), sx_row, sx_row]
    exact ⟨by rw [upd_ne _ _ (by omega), upd_eq], by rw [upd_eq]⟩
  have EM : ∀ o, o ≠ 2 → o ≠ 4 → o ≠ 6 → q2.1 o = qM7.1 o := fun o b c d => by
    rw [hq2, sA_ne _ _ c, sx_row_ne _ _ _ d, sx_row_ne _ _ _ d, sA_ne _ _ b, hq1, sA_ne _ _ b]
  have EX : ∀ o, ¬ (1 ≤ o ∧ o ≤ 7) → ¬ (19 ≤ o ∧ o ≤ 22) → q5.1 o = qX3.1 o := fun o a b => by rw [O5.1 o (by omega), O4.1 o a]
  refine ⟨?_, fun j hj => ?_, ?_, ⟨0, by omega, ?_, ?_, fun i hi => by omega⟩, ⟨0, by omega, ?_, ?_, fun i hi => by omega⟩, ⟨?_, ?_⟩, ?_, ?_, ?_⟩
  · unfold RT
    rw [E2]
    exact ⟨okA, (X4.cong (fun o h1 h2 => O5.1 o (by omega))).congT D0_ok eA⟩
  · rw [EX 23 (by omega) (by omega), EM 3 (by omega) (by omega) (by omega), ← tunes_first ⟨j, hj⟩]
    exact qX_23 ⟨j, hj⟩
  · unfold RN
    rw [E2, E4, enc, ebg]
    refine ⟨R5, ?_, ?_⟩
    · rw [← ebg]; exact begin_ok okA _
    · rw [(begin_0 _ _).1]; exact in_z 99
  · rw [EM 0 (by omega) (by omega) (by omega)]; rfl
  · rw [EX 34 (by omega) (by omega)]; rfl
  · rw [EM 0 (by omega) (by omega) (by omega)]; rfl
  · rw [EX 8 (by omega) (by omega)]; rfl
  · unfold RI1
    rw [E6.1]
    exact ⟨by rw [EX 24 (by omega) (by omega)]; rfl, Or.inl rfl, fun hj => absurd hj (by decide)⟩
  · unfold RI1
    rw [E6.2]
    exact ⟨by rw [EX 29 (by omega) (by omega)]; rfl, Or.inl rfl, fun hj => absurd hj (by decide)⟩
  · rw [EX 0 (by omega) (by omega), E4, (begin_0 _ _).2.2, q14]; rfl
  · rw [O5.2, O4.2, hq2]
    show qX3.2 0 11 = q1.2 0 1
    rw [hq1]
    rfl
  · rw [EM 0 (by omega) (by omega) (by omega)]; rfl
end START
