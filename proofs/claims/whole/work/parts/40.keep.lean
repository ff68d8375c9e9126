/-! keep, back -/
/-- g over f from b on -/
def mm_kp (f g : Nat → Int32) (b : Nat) : Nat → Nat → Int32
  | 0 => f
  | n + 1 => upd (mm_kp f g b n) (b + n) (g n)
theorem kp_at (f g : Nat → Int32) (b : Nat) : ∀ {n i : Nat}, i < n → mm_kp f g b n (b + i) = g i
  | 0, _, h => by omega
  | n + 1, i, h => by
    rw [mm_kp]
    by_cases e : i = n
    · rw [e, upd_eq]
    · rw [upd_ne _ _ (by omega), kp_at f g b (show i < n by omega)]
theorem kp_off (f g : Nat → Int32) (b : Nat) : ∀ {n j : Nat}, (j < b ∨ b + n ≤ j) → mm_kp f g b n j = f j
  | 0, _, _ => rfl
  | n + 1, j, h => by rw [mm_kp, upd_ne _ _ (by omega), kp_off f g b (show j < b ∨ b + n ≤ j by omega)]
section KEEP
variable {x m : SQ}
theorem px_l27 : (27 : Int32) = nI 27 := by decide
theorem XR.congS {k n : Nat} {S S2 : Nat → Int32} (h : XR x k n S) (hn : n ≤ 8) (e : ∀ i, i < 27 → S2 i = S i) : XR x k n S2 := by
  refine ⟨by rw [e 0 (by omega)]; exact h.1, by rw [e 1 (by omega)]; exact h.2.1, fun c hc => ?_⟩
  rw [e (3 + 3 * c) (by omega), e (3 + 3 * c + 1) (by omega), e (3 + 3 * c + 2) (by omega)]
  exact h.2.2 c hc
theorem okS.congS {T S S2 : Nat → Int32} (h : okS T S) (hT : okT T) (e : ∀ i, i < 27 → S2 i = S i) : okS T S2 := by
  have := hT.nc.2
  refine ⟨by rw [e 1 (by omega)]; exact h.1, fun c hc => ?_⟩
  rw [e (3 + 3 * c) (by omega)]
  exact h.2 c hc
theorem XcopyC {k r n : Nat} {S : Nat → Int32} (h : XR x r n S) (hn : n ≤ 8) (hk : k + 3 < r ∨ r + 3 < k) : Ev (F0_copyOf k r x) (fun z => XR z.2 k n S ∧ Only (fun o => k ≤ o ∧ o ≤ k + 3) x z.2) := by
  obtain ⟨x1, x2, x3⟩ := h
  unfold F0_copyOf
  simp (disch := omega) only [sx_let_e, gI_def, sx_row_ne]
  refine Ev.ret ⟨⟨?_, ?_, fun c hc => ⟨?_, ?_, ?_⟩⟩, ?_⟩
  · simp (disch := omega) only [sA_ne, sx_row, upd_ne, upd_eq]; exact x1
  · simp (disch := omega) only [sA_ne, sx_row, upd_ne, upd_eq]; exact x2
  · simp (disch := omega) only [sA_ne, sA_eq, sx_row_ne, cpy_lt]; exact (x3 c hc).1
  · simp (disch := omega) only [sA_ne, sA_eq, sx_row_ne, cpy_lt]; exact (x3 c hc).2.1
  · simp (disch := omega) only [sA_ne, sA_eq, sx_row_ne, cpy_lt]; exact (x3 c hc).2.2
  · exact (((((Only.rf x).sI (by omega)).sI (by omega)).sA (by omega)).sA (by omega)).sA (by omega)
theorem Mkeep {j : Nat} (hj : j < 2) : F7_keep_18 (nI j) 0 m = some (m.1 4 0, sI (sA m 5 (mm_kp (m.1 5) (m.1 4) (27 * j) 27)) 6 j 1) := by
  unfold F7_keep_18
  refine Ev.up (S := fun c => (nI c, sA m 5 (mm_kp (m.1 5) (m.1 4) (27 * j) c))) (N := 27) (fun c hc => ?_) ?_ (FU_gt (by omega)) (by rw [nI_0, mm_kp, sA_self])
  · have e : ¬ (27 : Int32) ≤ nI c := by rw [px_l27]; exact nI_ge hc (by omega)
    have r4 : (sA m 5 (mm_kp (m.1 5) (m.1 4) (27 * j) c)).1 4 = m.1 4 := sA_ne _ _ (by omega)
    simp (disch := omega) only [F7_keep_18b, if_neg e, Int32.add_zero, px_m3, px_a3, px_a24, px_a36, px_a42, px_m27, px_p1, px_p2, px_p3, nI_add, nI_clamp, sx_ixN, if_true, Bool.false_eq_true, if_false, gI_def, r4, sx_let_e, sI_sA, mm_kp]
  · have e : (27 : Int32) ≤ nI 27 := by decide
    have r4 : (sI (sA m 5 (mm_kp (m.1 5) (m.1 4) (27 * j) 27)) 6 j 1).1 4 = m.1 4 := by rw [sx_row_ne _ _ _ (by omega), sA_ne _ _ (by omega)]
    simp (disch := omega) only [F7_keep_18b, if_pos e, Int32.add_zero, px_m3, px_a3, px_a24, px_a36, px_a42, px_m27, px_p1, px_p2, px_p3, nI_add, nI_clamp, sx_ixN, if_true, Bool.false_eq_true, if_false, gI_def, sx_let_e, r4, Option.map_some]
theorem Mback {j : Nat} (hj : j < 2) : F7_back_30 (nI j) 0 m = some (m.1 5 (27 * j), sA m 4 (mm_kp (m.1 4) (fun i => m.1 5 (27 * j + i)) 0 27)) := by
  unfold F7_back_30
  refine Ev.up (S := fun c => (nI c, sA m 4 (mm_kp (m.1 4) (fun i => m.1 5 (27 * j + i)) 0 c))) (N := 27) (fun c hc => ?_) ?_ (FU_gt (by omega)) (by rw [nI_0, mm_kp, sA_self])
  · have e : ¬ (27 : Int32) ≤ nI c := by rw [px_l27]; exact nI_ge hc (by omega)
    have r4 : (sA m 4 (mm_kp (m.1 4) (fun i => m.1 5 (27 * j + i)) 0 c)).1 5 = m.1 5 := sA_ne _ _ (by omega)
    simp (disch := omega) only [F7_back_30b, if_neg e, Int32.add_zero, px_m3, px_a3, px_a24, px_a36, px_a42, px_m27, px_p1, px_p2, px_p3, nI_add, nI_clamp, sx_ixN, if_true, Bool.false_eq_true, if_false, gI_def, r4, sx_let_e, sI_sA, mm_kp, Nat.zero_add]
  · have e : (27 : Int32) ≤ nI 27 := by decide
    have r4 : (sA m 4 (mm_kp (m.1 4) (fun i => m.1 5 (27 * j + i)) 0 27)).1 4 0 = m.1 5 (27 * j) := by
      rw [sA_eq]
      exact kp_at (m.1 4) (fun i => m.1 5 (27 * j + i)) 0 (show 0 < 27 by omega)
    simp (disch := omega) only [F7_back_30b, if_pos e, gI_def, r4, Option.map_some]
/-- the kept rows of the model -/
theorem RI1.off {k j j2 : Nat} {v : Int32} {g : Nat → Int32} {y : SQ} (h : RI1 x m k j2) (hT : okT (m.1 2)) (hj : j < 2) (hj2 : j2 < 2) (hne : j2 ≠ j) (E : ∀ o, k ≤ o → o ≤ k + 4 → y.1 o = x.1 o) : RI1 y (sI (sA m 5 (mm_kp (m.1 5) g (27 * j) 27)) 6 j v) k j2 := by
  obtain ⟨i1, i2, i3⟩ := h
  have r6 : (sI (sA m 5 (mm_kp (m.1 5) g (27 * j) 27)) 6 j v).1 6 j2 = m.1 6 j2 := by rw [sx_row, upd_ne _ _ hne, sA_ne _ _ (by omega)]
  have r2 : (sI (sA m 5 (mm_kp (m.1 5) g (27 * j) 27)) 6 j v).1 2 = m.1 2 := by rw [sx_row_ne _ _ _ (by omega), sA_ne _ _ (by omega)]
  have r5 : ∀ i, i < 27 → (sI (sA m 5 (mm_kp (m.1 5) g (27 * j) 27)) 6 j v).1 5 (27 * j2 + i) = m.1 5 (27 * j2 + i) := fun i hi => by
    rw [sx_row_ne _ _ _ (by omega), sA_eq]
    exact kp_off _ _ _ (by omega)
  unfold RI1
  rw [r6, r2, E k (by omega) (by omega)]
  refine ⟨i1, i2, fun hq => ?_⟩
  obtain ⟨a, b, c, d⟩ := i3 hq
  have r50 := r5 0 (by omega)
  rw [Nat.add_zero] at r50
  refine ⟨by rw [r5 2 (by omega)]; exact a, (b.cong (fun o h1 h2 => E o (by omega) (by omega))).congS hT.nc.2 (fun i hi => r5 i hi), c.congS hT (fun i hi => r5 i hi), by rw [r50]; exact d⟩
theorem RI1.on {k j : Nat} {y : SQ} (h : RN x m) (hT : okT (m.1 2)) (hj : j < 2) (y0 : y.1 k 0 = 1) (y1 : y.1 k 1 = m.1 4 2) (yR : XR y (k + 1) (mm_nc (m.1 2)) (m.1 4)) : RI1 y (sI (sA m 5 (mm_kp (m.1 5) (m.1 4) (27 * j) 27)) 6 j 1) k j := by
  have r6 : (sI (sA m 5 (mm_kp (m.1 5) (m.1 4) (27 * j) 27)) 6 j 1).1 6 j = 1 := by rw [sx_row, upd_eq]
  have r2 : (sI (sA m 5 (mm_kp (m.1 5) (m.1 4) (27 * j) 27)) 6 j 1).1 2 = m.1 2 := by rw [sx_row_ne _ _ _ (by omega), sA_ne _ _ (by omega)]
  have r5 : ∀ i, i < 27 → (sI (sA m 5 (mm_kp (m.1 5) (m.1 4) (27 * j) 27)) 6 j 1).1 5 (27 * j + i) = m.1 4 i := fun i hi => by
    rw [sx_row_ne _ _ _ (by omega), sA_eq]
    exact kp_at _ _ _ hi
  unfold RI1
  rw [r6, r2, y0]
  have r50 := r5 0 (by omega)
  rw [Nat.add_zero] at r50
  exact ⟨rfl, Or.inr rfl, fun _ => ⟨by rw [r5 2 (by omega)]; exact y1, yR.congS hT.nc.2 r5, h.2.1.congS hT r5, by rw [r50]; exact h.2.2⟩⟩
theorem RR.kept (h : RR x m) {j : Nat} (hj : j < 2) {y : SQ} (hO : Only (fun o => 24 + 5 * j ≤ o ∧ o ≤ 28 + 5 * j) x y) (y0 : y.1 (24 + 5 * j) 0 = 1) (y1 : y.1 (24 + 5 * j) 1 = m.1 4 2) (yR : XR y (24 + 5 * j + 1) (mm_nc (m.1 2)) (m.1 4)) : RR y (sI (sA m 5 (mm_kp (m.1 5) (m.1 4) (27 * j) 27)) 6 j 1) := by
  obtain ⟨⟨t1, t2⟩, u, hN, ⟨n, k1, k2, k3, k4⟩, ⟨w, x1, x2, x3, x4⟩, ⟨i1, i2⟩, l, a, b⟩ := h
  have E : ∀ o, ¬ (24 ≤ o ∧ o ≤ 33) → y.1 o = x.1 o := fun o ho => hO.1 o (by omega)
  have F : ∀ o, o ≠ 5 → o ≠ 6 → (sI (sA m 5 (mm_kp (m.1 5) (m.1 4) (27 * j) 27)) 6 j 1).1 o = m.1 o := fun o h5 h6 => by rw [sx_row_ne _ _ _ h6, sA_ne _ _ h5]
  have hI : RI y (sI (sA m 5 (mm_kp (m.1 5) (m.1 4) (27 * j) 27)) 6 j 1) := by
    rcases (show j = 0 ∨ j = 1 by omega) with rfl | rfl
    · exact ⟨RI1.on hN t1 (by omega) y0 y1 yR, i2.off t1 (by omega) (by omega) (by omega) (fun o h1 h2 => hO.1 o (by omega))⟩
    · exact ⟨i1.off t1 (by omega) (by omega) (by omega) (fun o h1 h2 => hO.1 o (by omega)), RI1.on hN t1 (by omega) y0 y1 yR⟩
  refine ⟨?_, ?_, ?_, ?_, ?_, hI, ?_, ?_, ?_⟩
  · unfold RT
    rw [F 2 (by omega) (by omega)]
    exact ⟨t1, t2.cong (fun o h1 h2 => E o (by omega))⟩
  · unfold RU
    rw [F 3 (by omega) (by omega), E 23 (by omega)]
    exact u
  · unfold RN
    rw [F 2 (by omega) (by omega), F 4 (by omega) (by omega)]
    exact ⟨hN.1.cong (fun o h1 h2 => E o (by omega)), hN.2⟩
  · unfold RK
    rw [F 0 (by omega) (by omega), F 9 (by omega) (by omega), F 10 (by omega) (by omega), E 34 (by omega), E 35 (by omega), E 36 (by omega)]
    exact ⟨n, k1, k2, k3, k4⟩
  · unfold RX
    rw [F 0 (by omega) (by omega), F 1 (by omega) (by omega), E 8 (by omega), E 9 (by omega)]
    exact ⟨w, x1, x2, x3, x4⟩
  · rw [F 4 (by omega) (by omega), E 0 (by omega)]
    exact l
  · rw [hO.2, sI_two, sA_two]
    exact a
  · rw [F 0 (by omega) (by omega)]
    exact b
theorem keep_bo (h : RR x m) (v : Int32) : Bo (F6_keep v x) (F7_keep v m) := by
  unfold F7_keep
  simp only [sx_let_e]
  have h := h.t0
  generalize sI m 0 0 0 = m at h ⊢
  have hT := h.1.1
  unfold F6_keep F6_imageOf
  simp only [Xin, Min, bind_e]
  rcases wi_lit v (a := 0) (b := 1) (by omega) (by omega) 0 1 rfl rfl with ⟨j, -, hj, rfl, e⟩ | ⟨e, -⟩
  · rw [e]
    have key : ∀ k, k = 24 + 5 * j → Bo ((some (k, x)).bind (fun z2 => (if z2.1 = 24 ∨ z2.1 = 29 then sx_let z2.1 (fun r3 => sx_let (sI z2.2 r3 0 (1 : Int32)) (fun q4 => sx_let (sI q4 r3 1 (gI q4 0 10)) (fun q5 => (F0_copyOf (r3 + 1) 19 q5).bind (fun z6 => some (gI z6.2 19 0, z6.2))))) else none))) (F7_keep_18 (nI j) 0 m) := by
      intro k hk
      have g1 : k = 24 ∨ k = 29 := by omega
      simp only [bind_e, if_pos g1, sx_let_e]
      have hO1 : Only (fun o => o = k) x (sI (sI x k 0 1) k 1 (gI (sI x k 0 1) 0 10)) := Only.sI (P := fun o => o = k) (Only.sI (P := fun o => o = k) (Only.rf x) rfl) rfl
      obtain ⟨⟨u, z⟩, q1, q2, q3⟩ := XcopyC (x := sI (sI x k 0 1) k 1 (gI (sI x k 0 1) 0 10)) (k := k + 1) (r := 19) (h.2.2.1.1.cong (fun o h1 h2 => hO1.1 o (by omega))) hT.nc.2 (by omega)
      simp only at q2 q3
      rw [q1, Mkeep (show j < 2 by omega)]
      have hO2 : Only (fun o => 24 + 5 * j ≤ o ∧ o ≤ 28 + 5 * j) x z := (hO1.mono (fun o ho => by omega)).tr (q3.mono (fun o ho => by omega))
      have z0 : z.1 (24 + 5 * j) = upd (upd (x.1 k) 0 1) 1 (m.1 4 2) := by
        rw [← hk, q3.1 k (by omega), sx_row, sx_row, gI_def, sx_row_ne _ _ _ (show 0 ≠ k by omega), h.2.2.2.2.2.2.1]
      simp only [bind_e, gI_def]
      refine Bo.ret2 ?_ (h.kept (show j < 2 by omega) hO2 (by rw [z0, upd_ne _ _ (by omega), upd_eq]) (by rw [z0, upd_eq]) (by rw [← hk]; exact q2))
      rw [hO2.1 19 (by omega)]
      exact h.2.2.1.1.1
    simp only [show ¬ ((1 : Int32) = 0) from by decide, if_false]
    rcases (show j = 0 ∨ j = 1 by omega) with rfl | rfl
    · rw [if_pos (show nI 0 = (0 : Int32) from nI_0)]
      exact key 24 (by omega)
    · rw [if_neg (show ¬ nI 1 = (0 : Int32) from by decide)]
      exact key 29 (by omega)
  · rw [e]
    exact Bo.ret h
theorem back_bo (h : RR x m) (v : Int32) : Bo (F6_back v x) (F7_back v m) := by
  unfold F7_back
  simp only [sx_let_e]
  have h := h.t0
  generalize sI m 0 0 0 = m at h ⊢
  have hT := h.1.1
  unfold F6_back F6_imageOf
  simp only [Xin, Min, bind_e]
  rcases wi_lit v (a := 0) (b := 1) (by omega) (by omega) 0 1 rfl rfl with ⟨j, -, hj, rfl, e⟩ | ⟨e, -⟩
  · rw [e]
    have key : ∀ k, k = 24 + 5 * j → Bo ((some (k, x)).bind (fun z2 => (if z2.1 = 24 ∨ z2.1 = 29 then sx_let z2.1 (fun r3 => (if gI z2.2 r3 0 = 0 then some ((-2 : Int32), z2.2) else sx_let (sI z2.2 0 10 (gI z2.2 r3 1)) (fun q4 => (F0_copyOf 19 (r3 + 1) q4).bind (fun z5 => some (gI z5.2 19 0, z5.2))))) else none))) (if gI m 6 j = 0 then some ((-2 : Int32), m) else F7_back_30 (nI j) 0 m) := by
      intro k hk
      have g1 : k = 24 ∨ k = 29 := by omega
      have hI : RI1 x m k j := by
        rcases (show j = 0 ∨ j = 1 by omega) with rfl | rfl
        · rw [hk]; exact h.2.2.2.2.2.1.1
        · rw [hk]; exact h.2.2.2.2.2.1.2
      obtain ⟨i1, i2, i3⟩ := hI
      simp only [bind_e, if_pos g1, sx_let_e, gI_def, i1]
      rcases i2 with z | z
      · rw [if_pos z, if_pos z]
        exact Bo.ret h
      · have zn : ¬ m.1 6 j = 0 := by rw [z]; decide
        rw [if_neg zn, if_neg zn]
        obtain ⟨a, b, c, d⟩ := i3 z
        rw [a]
        have hL := h.lot (m.1 5 (27 * j + 2))
        obtain ⟨⟨u, y⟩, q1, q2, q3⟩ := XcopyC (x := sI x 0 10 (m.1 5 (27 * j + 2))) (k := 19) (r := k + 1) (b.cong (fun o h1 h2 => sx_row_ne _ _ _ (by omega))) hT.nc.2 (by omega)
        simp only at q2 q3
        rw [q1, Mback (show j < 2 by omega)]
        have eS : ∀ i, i < 27 → mm_kp (m.1 4) (fun i => m.1 5 (27 * j + i)) 0 27 i = m.1 5 (27 * j + i) := fun i hi => by
          have := kp_at (m.1 4) (fun i => m.1 5 (27 * j + i)) 0 hi
          rw [Nat.zero_add] at this
          exact this
        have e2 : (sI m 4 2 (m.1 5 (27 * j + 2))).1 2 = m.1 2 := sx_row_ne _ _ _ (by omega)
        have e4 : (sI m 4 2 (m.1 5 (27 * j + 2))).1 4 2 = m.1 5 (27 * j + 2) := by rw [sx_row, upd_eq]
        have hF := hL.now (S := mm_kp (m.1 4) (fun i => m.1 5 (27 * j + i)) 0 27) q3 (by rw [e2]; exact q2.congS hT.nc.2 eS) (by rw [e2]; exact c.congS hT eS) (by rw [eS 0 (by omega)]; exact d) (by rw [eS 2 (by omega), e4])
        rw [sI_as m, sA_sA] at hF
        simp only [bind_e, gI_def]
        exact Bo.ret2 q2.1 hF
    simp (disch := omega) only [show ¬ ((1 : Int32) = 0) from by decide, Int32.add_zero, px_m3, px_a3, px_a24, px_a36, px_a42, px_m27, px_p1, px_p2, px_p3, nI_add, nI_clamp, sx_ixN, if_true, Bool.false_eq_true, if_false]
    rcases (show j = 0 ∨ j = 1 by omega) with rfl | rfl
    · rw [if_pos (show nI 0 = (0 : Int32) from nI_0)]
      exact key 24 (by omega)
    · rw [if_neg (show ¬ nI 1 = (0 : Int32) from by decide)]
      exact key 29 (by omega)
  · rw [e]
    exact Bo.ret h
end KEEP
