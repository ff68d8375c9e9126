/-! a chart that stands -/
section ADOPT2
variable {x m : SQ}
theorem RR.adopt (h : RR x m) {y z : SQ} (hO : Only (fun o => o = 8 ∨ (10 ≤ o ∧ o ≤ 18)) x y) (hM : MF m z) (hD : DR y z) (r : Int32) : Ev ((F4_copyOf 1 10 (sI y 8 0 0)).bind (fun z4 => (F0_begin 19 1 (0 : Int32) z4.2).bind (fun z5 => sx_let (sI z5.2 24 0 (0 : Int32)) (fun q6 => sx_let (sI q6 29 0 (0 : Int32)) (fun q7 => some (r, q7)))))) (fun w => w.1 = r ∧ RR w.2 (sI (sA (sI (sI (sA z 2 (mm_ad (z.1 2) 42)) 6 0 0) 6 1 0) 4 (mm_begin (mm_ad (z.1 2) 42) (z.1 4))) 0 3 0)) := by
  obtain ⟨d1, d2, -⟩ := hD
  obtain ⟨⟨u1, y1⟩, e1, X1, O1⟩ := Xcopy (x := sI y 8 0 0) (k := 1) (r := 10) (d2.cong (fun o h1 h2 => sx_row_ne _ _ _ (by omega))) d1 (by omega)
  simp only at X1 O1
  obtain ⟨⟨u2, y2⟩, e2, R2, O2⟩ := Xbegin (z.1 4) 0 (k := 19) X1 d1 (fun o h1 h2 => by omega)
  simp only at R2 O2
  rw [upd_self (begin_0 _ _).1] at R2
  simp only [e1, e2, bind_e, sx_let_e]
  refine Ev.ret ⟨rfl, ?_⟩
  obtain ⟨A, hA⟩ : ∃ A, A = mm_ad (z.1 2) 42 := ⟨_, rfl⟩
  rw [← hA]
  have eA : ∀ j, j < 42 → A j = dD z j := fun j hj => by rw [hA, ad_lt _ hj]; rfl
  have okA := d1.cong eA
  have enc : mm_nc A = mm_nc (dD z) := by unfold mm_nc; rw [eA 40 (by omega)]
  have ebg : mm_begin A (z.1 4) = mm_begin (dD z) (z.1 4) := by
    unfold mm_begin
    exact beg_cong (fun c hc => eA (3 * c) (by omega)) 8 (Nat.le_refl 8)
  have EX : ∀ o, ¬ (o = 8 ∨ (10 ≤ o ∧ o ≤ 18)) → ¬ (1 ≤ o ∧ o ≤ 7) → ¬ (19 ≤ o ∧ o ≤ 22) → o ≠ 24 → o ≠ 29 → (sI (sI y2 24 0 0) 29 0 0).1 o = x.1 o := fun o a b c d e => by
    rw [sx_row_ne _ _ _ e, sx_row_ne _ _ _ d, O2.1 o (by omega), O1.1 o (by omega), sx_row_ne _ _ _ (by omega), hO.1 o a]
  obtain ⟨n', hn'⟩ : ∃ n', n' = sI (sA (sI (sI (sA z 2 A) 6 0 0) 6 1 0) 4 (mm_begin A (z.1 4))) 0 3 0 := ⟨_, rfl⟩
  rw [← hn']
  have EM : ∀ o, o ≠ 0 → o ≠ 2 → o ≠ 4 → o ≠ 6 → n'.1 o = m.1 o := fun o a b c d => by
    rw [hn', sx_row_ne _ _ _ a, sA_ne _ _ c, sx_row_ne _ _ _ d, sx_row_ne _ _ _ d, sA_ne _ _ b, hM.1 o a b]
  have E2 : n'.1 2 = A := by rw [hn', sx_row_ne _ _ _ (by omega), sA_ne _ _ (by omega), sx_row_ne _ _ _ (by omega), sx_row_ne _ _ _ (by omega), sA_eq]
  have E4 : n'.1 4 = mm_begin A (z.1 4) := by rw [hn', sx_row_ne _ _ _ (by omega), sA_eq]
  have E6 : n'.1 6 0 = 0 ∧ n'.1 6 1 = 0 := by
    rw [hn', sx_row_ne _ _ _ (by omega), sA_ne _ _ (by omega), sx_row, sx_row]
    exact ⟨by rw [upd_ne _ _ (by omega), upd_eq], by rw [upd_eq]⟩
  have E0 : ∀ j, ¬ (4 ≤ j ∧ j ≤ 8) → j ≠ 3 → n'.1 0 j = m.1 0 j := fun j a b => by
    rw [hn', sx_row, upd_ne _ _ b, sA_ne _ _ (by omega), sx_row_ne _ _ _ (by omega), sx_row_ne _ _ _ (by omega), sA_ne _ _ (by omega), hM.2.2.1 j a]
  have E03 : n'.1 0 3 = 0 := by rw [hn', sx_row, upd_eq]
  obtain ⟨-, u, -, ⟨k, k1, k2, k3, k4⟩, -, -, l, a, bb⟩ := h
  refine ⟨?_, ?_, ?_, ?_, ?_, ⟨?_, ?_⟩, ?_, ?_, ?_⟩
  · unfold RT
    rw [E2]
    refine ⟨okA, XT.congT (T := dD z) ?_ d1 eA⟩
    exact X1.cong (fun o h1 h2 => by rw [sx_row_ne _ _ _ (by omega), sx_row_ne _ _ _ (by omega), O2.1 o (by omega)])
  · unfold RU
    rw [EX 23 (by omega) (by omega) (by omega) (by omega) (by omega), EM 3 (by omega) (by omega) (by omega) (by omega)]
    exact u
  · unfold RN
    rw [E2, E4, enc, ebg]
    refine ⟨R2.cong (fun o h1 h2 => by rw [sx_row_ne _ _ _ (by omega), sx_row_ne _ _ _ (by omega)]), ?_, ?_⟩
    · rw [← ebg]; exact begin_ok okA _
    · rw [(begin_0 _ _).1]; exact in_z 99
  · unfold RK
    rw [EX 34 (by omega) (by omega) (by omega) (by omega) (by omega), EX 35 (by omega) (by omega) (by omega) (by omega) (by omega), EX 36 (by omega) (by omega) (by omega) (by omega) (by omega), EM 9 (by omega) (by omega) (by omega) (by omega), EM 10 (by omega) (by omega) (by omega) (by omega), E0 19 (by omega) (by omega)]
    exact ⟨k, k1, k2, k3, k4⟩
  · refine ⟨0, by omega, by rw [E03, nI_0], ?_, fun i hi => by omega⟩
    rw [sx_row_ne _ _ _ (by omega), sx_row_ne _ _ _ (by omega), O2.1 8 (by omega), O1.1 8 (by omega), sx_row, upd_eq, nI_0]
  · unfold RI1
    rw [E6.1]
    exact ⟨by rw [sx_row_ne _ _ _ (by omega), sx_row, upd_eq], Or.inl rfl, fun hj => absurd hj (by decide)⟩
  · unfold RI1
    rw [E6.2]
    exact ⟨by rw [sx_row, upd_eq], Or.inl rfl, fun hj => absurd hj (by decide)⟩
  · rw [EX 0 (by omega) (by omega) (by omega) (by omega) (by omega), E4, (begin_0 _ _).2.2, hM.1 4 (by omega) (by omega)]
    exact l
  · rw [hn']
    show y2.2 0 11 = z.2 0 1
    rw [O2.2, O1.2, sI_two, hO.2, hM.2.1]
    exact a
  · rw [E0 16 (by omega) (by omega)]
    exact bb
end ADOPT2
