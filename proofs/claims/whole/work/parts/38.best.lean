section BEST2
variable {x m : SQ}
theorem in_z (n : Nat) : inN (0 : Int32) 0 n := ⟨0, by omega, by omega, nI_0.symm⟩
theorem inN.nm1 {r : Int32} (h : inN r 0 800) : ¬ r ≤ -1 := by
  obtain ⟨j, -, h2, rfl⟩ := h
  intro e
  exact nI_pos (show j < 2 ^ 31 by omega) (Int32.lt_of_le_of_lt e (by decide))
theorem best_in {s f l k : Nat} {v3 v4 v5 v6 u w u2 : Int32} {y n : SQ} (hT : okT (m.1 2)) (hU : ∀ j, j < 6 → x.1 23 j = m.1 3 j) (h16 : m.1 0 16 = 0) (hs : s < 4) (hf : f ≤ l) (hl : l ≤ 99) (hk : k ≤ 9) (hX : BX x (m.1 2) s (nI k) u y) (hM : BM m s w u2 n) : Ev2 (F6_best_116 (nI s) (nI l) v3 v4 v5 v6 (nI k) (nI l) (nI f) y) (F7_best_103 (nI s) (nI l) v3 v4 v5 v6 (nI k) (nI f) n) (fun p q => ∃ a b c z o u' w' u2', p = .inl (a, b, c, nI (k + 1), z) ∧ q = .inl (a, b, c, nI (k + 1), o) ∧ BX x (m.1 2) s (nI k) u' z ∧ BM m s w' u2' o) := by
  unfold F6_best_116 F7_best_103
  have hk9 : inN (nI k) 0 9 := ⟨k, by omega, by omega, rfl⟩
  refine Ev2.loop (fun j st t => ∃ a b c y2 n2 u w u2, st = (a, b, c, nI (f + j), y2) ∧ t = (a, b, c, nI (f + j), n2) ∧ BX x (m.1 2) s (nI k) u y2 ∧ BM m s w u2 n2) (l - f + 1) (fun j st t hj hI => ?_) (fun st t hI => ?_) ⟨v4, v5, v6, y, n, u, w, u2, rfl, rfl, hX, hM⟩ (FU_gt (by omega))
  · obtain ⟨a, b, c, y2, n2, u, w, u2, rfl, rfl, hX, hM⟩ := hI
    have f1 : ¬ nI l < nI (f + j) := nI_nlt (by omega) (by omega)
    have hu : inN (nI (f + j)) 0 99 := ⟨f + j, by omega, by omega, rfl⟩
    obtain ⟨r, z, q1, q2, q3⟩ := (hX.til (v := nI (f + j)) hT hs hu).run hT hs hU hl
    obtain ⟨S, p1, p2⟩ := (hM.set (v := nI k) (t := nI (f + j)) hk9 hu).run hT h16 hs hl
    rw [← q3] at p1
    simp (disch := omega) only [F6_best_116b, F6_best_158, F7_best_103b, F7_best_154, F7_best_170, F7_best_186, if_neg f1, Int32.add_zero, px_m3, px_a3, px_a24, px_a36, px_a42, px_m27, px_p1, px_p2, px_p3, nI_add, nI_clamp, sx_ixN, if_true, Bool.false_eq_true, if_false, sx_let_e, q1, p1, bind_e]
    by_cases q : r ≤ c
    · simp only [if_pos q]
      exact Ev2.ret ⟨_, _, rfl, rfl, _, _, _, _, _, _, _, _, rfl, rfl, q2, p2⟩
    · simp only [if_neg q]
      exact Ev2.ret ⟨_, _, rfl, rfl, _, _, _, _, _, _, _, _, rfl, rfl, q2, p2⟩
  · obtain ⟨a, b, c, y2, n2, u, w, u2, rfl, rfl, hX, hM⟩ := hI
    have f1 : nI l < nI (f + (l - f + 1)) := nI_lt (by omega) (by omega)
    simp only [F6_best_116b, F7_best_103b, if_pos f1, sx_let_e, px_p1]
    exact Ev2.ret ⟨_, _, rfl, rfl, a, b, c, y2, n2, u, w, u2, rfl, rfl, hX, hM⟩
theorem best_first {s f l : Nat} {v3 u w u2 : Int32} {y n : SQ} (hT : okT (m.1 2)) (hU : ∀ j, j < 6 → x.1 23 j = m.1 3 j) (h16 : m.1 0 16 = 0) (hs : s < 4) (hf : f ≤ l) (hl : l ≤ 99) (hX : BX x (m.1 2) s 0 u y) (hM : BM m s w u2 n) : Ev2 (F6_best_116 (nI s) (nI l) v3 0 (nI f) (-1) 0 (nI f) (nI f) y) (F7_best_103 (nI s) (nI l) v3 0 0 (-1) 0 (nI f) n) (fun p q => ∃ a b c z o u' w' u2', p = .inl (a, b, c, nI 1, z) ∧ q = .inl (a, b, c, nI 1, o) ∧ BX x (m.1 2) s 0 u' z ∧ BM m s w' u2' o) := by
  have e1 : (0 : Int32) + 1 = nI 1 := by decide
  have huf : inN (nI f) 0 99 := ⟨f, by omega, by omega, rfl⟩
  obtain ⟨r, z, q1, q2, q3⟩ := (hX.til (v := nI f) hT hs huf).run hT hs hU hl
  have hr : inN r 0 800 := by
    rw [q3 (fun _ => 0)]
    exact end_in (tb_ok hT hs (in_z 9) huf) l
  have X : F6_best_116 (nI s) (nI l) v3 0 (nI f) (-1) 0 (nI f) (nI f) y = some (.inl (0, nI f, r, nI 1, z)) := by
    unfold F6_best_116
    refine Ev.up (S := fun j => if j = 0 then (0, nI f, -1, nI f, y) else (0, nI f, r, nI (f + 1), z)) (N := 1) (fun j hj => ?_) ?_ (FU_gt (by omega)) (by rw [if_pos rfl])
    · obtain rfl : j = 0 := by omega
      simp only [if_true, if_neg (show ¬ (0 + 1 = 0) by omega), F6_best_116b, F6_best_158, if_neg (nI_nlt (Nat.le_refl f) (show f < 2 ^ 31 by omega)), sx_let_e, q1, bind_e, if_neg hr.nm1, px_p1]
    · simp only [if_neg (show ¬ (1 = 0) by omega), F6_best_116b, if_pos (nI_lt (show f < f + 1 by omega) (show f + 1 < 2 ^ 31 by omega)), sx_let_e, e1]
      rfl
  have M : Ev (F7_best_103 (nI s) (nI l) v3 0 0 (-1) 0 (nI f) n) (fun q => ∃ o w' u2', q = .inl (0, nI f, r, nI 1, o) ∧ BM m s w' u2' o) := by
    unfold F7_best_103
    refine Ev.loop (fun j t => ∃ n2 w u2, t = (0, (if j = 0 then 0 else nI f), (if j = 0 then -1 else r), nI (f + j), n2) ∧ BM m s w u2 n2) (l - f + 1) (fun j t hj hI => ?_) (fun t hI => ?_) ⟨n, w, u2, by rw [if_pos rfl, if_pos rfl, Nat.add_zero], hM⟩ (FU_gt (by omega))
    · obtain ⟨n2, w, u2, rfl, hM⟩ := hI
      have f1 : ¬ nI l < nI (f + j) := nI_nlt (by omega) (by omega)
      have hu : inN (nI (f + j)) 0 99 := ⟨f + j, by omega, by omega, rfl⟩
      obtain ⟨S, p1, p2⟩ := (hM.set (v := 0) (t := nI (f + j)) (in_z 9) hu).run hT h16 hs hl
      rw [← (tb_al (T := m.1 2) hs (nI (f + j)) (nI f)).ends (tb_ok hT hs (in_z 9) hu) l, ← q3] at p1
      simp (disch := omega) only [F7_best_103b, F7_best_154, F7_best_170, F7_best_186, if_neg f1, Int32.add_zero, px_m3, px_a3, px_a24, px_a36, px_a42, px_m27, px_p1, px_p2, px_p3, nI_add, nI_clamp, sx_ixN, if_true, Bool.false_eq_true, if_false, sx_let_e, p1, bind_e, if_neg (show ¬ (j + 1 = 0) by omega)]
      by_cases q : j = 0
      · subst q
        simp only [if_true, if_neg hr.nm1]
        exact Ev.ret (Or.inl ⟨_, rfl, _, _, _, rfl, p2⟩)
      · simp only [if_neg q, if_pos (Int32.le_refl r)]
        exact Ev.ret (Or.inl ⟨_, rfl, _, _, _, rfl, p2⟩)
    · obtain ⟨n2, w, u2, rfl, hM⟩ := hI
      have f1 : nI l < nI (f + (l - f + 1)) := nI_lt (by omega) (by omega)
      simp only [F7_best_103b, if_pos f1, sx_let_e, e1, if_neg (show ¬ (l - f + 1 = 0) by omega)]
      exact Ev.ret ⟨_, rfl, _, _, _, rfl, hM⟩
  obtain ⟨q, p1, o, w', u2', rfl, p2⟩ := M
  exact ⟨_, _, X, p1, _, _, _, z, o, _, w', u2', rfl, rfl, q2, p2⟩
theorem best_bo (h : RR x m) (v1 v2 v3 : Int32) : Bo (F6_best v1 v2 v3 x) (F7_best v1 v2 v3 m) := by
  unfold F7_best F7_best_38
  simp only [sx_let_e]
  have h := h.t0
  generalize sI m 0 0 0 = m at h ⊢
  have hT := h.1.1
  have hU := h.2.1
  have h16 := h.2.2.2.2.2.2.2.2
  obtain ⟨e41, h41⟩ := hT.ns
  obtain ⟨f, -, hf, e36⟩ := hT.2.2.1
  unfold F6_best F6_best_33
  simp only [XisSort, MisSort, Xin, Min, bind_e, gI_def, h.1.2.2.1, h.1.2.2.2.1, e36]
  rcases wi_N v1 (n := mm_ns (m.1 2)) (by omega) _ e41 with ⟨s, hs, rfl, e1⟩ | ⟨e1, -⟩
  · rw [e1]
    simp only [show ¬ ((1 : Int32) = 0) from by decide, if_false]
    rcases wi_lit v2 (a := f) (b := 99) hf (by omega) _ 99 rfl rfl with ⟨l, hl1, hl, rfl, e2⟩ | ⟨e2, -⟩
    · rw [e2]
      simp only [show ¬ ((1 : Int32) = 0) from by decide, if_false]
      by_cases e3 : wi v3 0 2 = 0
      · rw [if_pos e3, if_pos e3]
        exact Bo.ret h
      · rw [if_neg e3, if_neg e3]
        obtain ⟨⟨u, y⟩, q1, q2, q3⟩ := Xcopy (k := 41) h.1.2 hT (by omega)
        simp only at q2 q3
        obtain ⟨⟨u3, y3⟩, p1, p2, p3⟩ := Xnopay q2 hT
        simp only at p2 p3
        have hO3 : Only (fun o => 37 ≤ o) x y3 := (q3.mono (fun o ho => by omega)).tr (p3.mono (fun o ho => by omega))
        have hs4 : s < 4 := by omega
        have y36 : y3.1 1 8 = nI f := by rw [hO3.1 1 (by omega), h.1.2.2.2.1, e36]
        have r2 : (sA m 8 (mm_cp (m.1 8) (m.1 2) 42)).1 2 = m.1 2 := sA_ne _ _ (by omega)
        have z0 : inN (bareT (m.1 2) (24 + 3 * s + 2)) 0 9 := by rw [bare_pay _ hs4]; exact in_z 9
        have z1 : inN (bareT (m.1 2) 37) 0 99 := by rw [bare_ne _ (by omega)]; exact hT.2.2.2.1
        simp only [q1, p1, Maside1, Mzero, sx_let_e, bind_e, r2, y36]
        unfold F6_best_71 F7_best_87
        refine Ev2.bo (Ev2.loop (fun k st t => ∃ a b b2 c y2 n2 w u w2 u2, st = (a, b, c, nI k, y2) ∧ t = (a, b2, c, nI k, n2) ∧ BX x (m.1 2) s w u y2 ∧ BM m s w2 u2 n2 ∧ (k = 0 → a = 0 ∧ b = nI f ∧ b2 = 0 ∧ c = -1) ∧ (0 < k → b = b2)) 10 (fun k st t hk hI => ?_) (fun st t hI => ?_) ⟨0, nI f, 0, -1, y3, _, _, _, _, _, by rw [nI_0], by rw [nI_0], ⟨z0, z1, by rw [tb_self]; exact p2, hO3⟩, ⟨z0, z1, by rw [sA_eq, tb_self], (Only.rf _).sA (by omega)⟩, fun _ => ⟨rfl, rfl, rfl, rfl⟩, fun h => by omega⟩ (FU_gt (by omega)))
        · obtain ⟨a, b, b2, c, y2, n2, w, u, w2, u2, rfl, rfl, hX, hM, g0, g1⟩ := hI
          have f1 : ¬ (9 : Int32) < nI k := by rw [px_l9]; exact nI_nlt (by omega) (by omega)
          have f2 : ¬ (10 : Int32) ≤ nI k := by rw [px_l10]; exact nI_ge hk (by omega)
          have hk9 : inN (nI k) 0 9 := ⟨k, by omega, by omega, rfl⟩
          have hX2 := hX.pay (v := nI k) hT hs4 hk9
          have x36 : (sI y2 47 s (nI k)).1 1 8 = nI f := by rw [hX2.2.2.2.1 1 (by omega), h.1.2.2.2.1, e36]
          have m36 : n2.1 2 36 = nI f := by rw [hM.2.2.1, tb_far _ _ _ (by omega) (by omega), bare_ne _ (by omega), e36]
          simp (disch := omega) only [F6_best_71b, F6_best_105, F7_best_87b, if_neg f1, if_neg f2, Int32.add_zero, px_m3, px_a3, px_a24, px_a36, px_a42, px_m27, px_p1, px_p2, px_p3, nI_add, nI_clamp, sx_ixN, if_true, Bool.false_eq_true, if_false, sx_let_e, gI_def, x36, m36]
          by_cases q : k = 0
          · subst q
            obtain ⟨rfl, rfl, rfl, rfl⟩ := g0 rfl
            rw [nI_0] at hX2 ⊢
            rw [if_pos rfl]
            obtain ⟨p, r, w1, w3, a', b', c', z, o, u', w', u2', rfl, rfl, k1, k2⟩ := best_first (v3 := v3) hT hU h16 hs4 hl1 hl hX2 hM
            exact ⟨_, _, w1, w3, _, _, rfl, rfl, a', b', b', c', z, o, _, _, _, _, rfl, rfl, k1, k2, fun h => by omega, fun _ => rfl⟩
          · obtain rfl := g1 (by omega)
            rw [if_neg (fun e => q ((nI_eq (by omega) (show 0 < 2 ^ 31 by omega)).mp (e.trans nI_0.symm)))]
            obtain ⟨p, r, w1, w3, a', b', c', z, o, u', w', u2', rfl, rfl, k1, k2⟩ := best_in (v3 := v3) (v4 := a) (v5 := b) (v6 := c) hT hU h16 hs4 hl1 hl (show k ≤ 9 by omega) hX2 hM
            exact ⟨_, _, w1, w3, _, _, rfl, rfl, a', b', b', c', z, o, _, _, _, _, rfl, rfl, k1, k2, fun h => by omega, fun _ => rfl⟩
        · obtain ⟨a, b, b2, c, y2, n2, w, u, w2, u2, rfl, rfl, hX, hM, g0, g1⟩ := hI
          obtain rfl := g1 (by omega)
          have f1 : (9 : Int32) < nI 10 := by decide
          have f2 : (10 : Int32) ≤ nI 10 := by decide
          have hR := (h.back (hM.2.2.2.mono (fun o ho => by omega)) (fun j => by rw [hM.2.2.2.1 0 (by omega), sA_ne _ _ (by omega)]) (fun j hj => by rw [hM.2.2.1, tb_far _ _ _ (by omega) (by omega), bare_ne _ (by omega)])).keepX hX.2.2.2
          simp only [F6_best_71b, F7_best_87b, if_pos f1, if_pos f2, Maside0, bind_e]
          split
          · exact Ev2.ret ⟨_, _, rfl, rfl, rfl, hR⟩
          · split
            · exact Ev2.ret ⟨_, _, rfl, rfl, rfl, hR⟩
            · exact Ev2.ret ⟨_, _, rfl, rfl, rfl, hR⟩
    · rw [e2]
      exact Bo.ret h
  · rw [e1]
    exact Bo.ret h
end BEST2
