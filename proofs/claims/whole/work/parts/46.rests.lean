section RESTS
variable {x m : SQ}
theorem bare_back (h : m.1 0 16 = 0) : sI (sI m 0 16 1) 0 16 0 = m := by
  rw [sI_as m 0 16 1, sI_sA, upd_upd, upd_self h, sA_self]
theorem Mjs {c : Nat} (hT : okT (m.1 2)) (h16 : m.1 0 16 = 0) (hc : c < 8) : F7_jarSort (nI c) m = some (nI (mm_js (m.1 2) (m.1 3) (m.1 4) c), m) := by
  have r2 : (sI m 0 16 1).1 2 = m.1 2 := sx_row_ne _ _ _ (by omega)
  have r3 : (sI m 0 16 1).1 3 = m.1 3 := sx_row_ne _ _ _ (by omega)
  have r4 : (sI m 0 16 1).1 4 = m.1 4 := sx_row_ne _ _ _ (by omega)
  have r0 : (sI m 0 16 1).1 0 16 = 1 := by rw [sx_row, upd_eq]
  have hm := Mchoice (m := sI m 0 16 1) (r := 4) (c := c) (day := m.1 4 0) hc (by rw [r2]; exact hT)
  rw [r2, r3, r4, r0] at hm
  unfold F7_jarSort mm_js
  simp only [sx_let_e, gI_def, r4, hm, bind_e, bare_back h16]
  have h4 := hT.ns.2
  rcases choice_in hT 1 (m.1 3 0) (m.1 4) c (m.1 4 0) with e | ⟨k, hk, e⟩
  · rw [e, if_pos rfl, if_pos rfl, nI_0]
  · rw [e, if_neg (nI_m9 (by omega)), if_neg (nI_m9 (by omega)), nI_clamp (by omega)]
theorem Mjp {v : Int32} (hT : okT (m.1 2)) (h16 : m.1 0 16 = 0) (h0 : 0 < mm_ns (m.1 2)) : F7_jarPages v m = some (mm_jp (mm_JP (m.1 2) (m.1 3) (m.1 4)) v (mm_nc (m.1 2)), m) := by
  obtain ⟨e40, h40⟩ := hT.nc
  have h41 := hT.ns.2
  unfold F7_jarPages F7_jarPages_4
  refine Ev.up (S := fun c => (mm_jp (mm_JP (m.1 2) (m.1 3) (m.1 4)) v c, nI c, m)) (N := mm_nc (m.1 2)) (fun c hc => ?_) ?_ (FU_gt (by omega)) (by rw [nI_0, mm_jp])
  · have hjs := js_lt (U := m.1 3) (S := m.1 4) hT h0 c
    have hh := (hT.2.2.2.2.2.2.2 _ hjs).1.ne0 (by omega) (by omega)
    have mp := Mpages (m := m) (c := c) (k := mm_js (m.1 2) (m.1 3) (m.1 4) c) (by omega) (by omega) hh
    simp only [F7_jarPages_4b, F7_jarPages_39, gI_def, e40, if_neg (nI_ge hc (show mm_nc (m.1 2) < 2 ^ 31 by omega)), Mjs hT h16 (show c < 8 by omega), mp, bind_e, sx_let_e, px_p1, mm_jp]
    by_cases q : (v >>> (nI c &&& 31)) &&& 1 = 1
    · rw [if_pos q, if_pos q]
      rfl
    · rw [if_neg q, if_neg q]
  · simp only [F7_jarPages_4b, gI_def, e40, if_pos (nI_le (Nat.le_refl (mm_nc (m.1 2))) (show mm_nc (m.1 2) < 2 ^ 31 by omega)), Option.map_some]
theorem Mhas {c : Nat} {p g v : Int32} (hT : okT (m.1 2)) (h16 : m.1 0 16 = 0) (h0 : 0 < mm_ns (m.1 2)) (hc : c < mm_nc (m.1 2)) : F7_jarHas (nI c) v p g m = some (mm_has (mm_JP (m.1 2) (m.1 3) (m.1 4)) (mm_JJ (m.1 2) (m.1 3) (m.1 4)) (mm_JT (m.1 2) (m.1 4) g) (mm_nc (m.1 2)) p v c, m) := by
  have h40 := hT.nc.2
  have h41 := hT.ns.2
  have hjs := js_lt (U := m.1 3) (S := m.1 4) hT h0 c
  have mj := Mjoys (m := m) (r := 4) (c := c) (k := mm_js (m.1 2) (m.1 3) (m.1 4) c) (by omega) (by omega)
  unfold F7_jarHas F7_jarHas_34 F7_jarHas_74 mm_has
  simp (disch := omega) only [Mjs hT h16 (show c < 8 by omega), mj, Mjp hT h16 h0, bind_e, gI_def, Int32.add_zero, px_m3, px_a3, px_a24, px_a36, px_a42, px_m27, px_p1, px_p2, px_p3, nI_add, nI_clamp, sx_ixN, if_true, Bool.false_eq_true, if_false]
  by_cases q : (v >>> (nI c &&& 31)) &&& 1 = 1
  · rw [if_pos q, if_pos q]
    by_cases q2 : mm_jp (mm_JP (m.1 2) (m.1 3) (m.1 4)) v (mm_nc (m.1 2)) < p
    · rw [if_pos q2, if_pos q2]
      simp only [Int32.add_zero]
      rfl
    · rw [if_neg q2, if_neg q2]
      rfl
  · rw [if_neg q, if_neg q]
    by_cases q2 : mm_jp (mm_JP (m.1 2) (m.1 3) (m.1 4)) v (mm_nc (m.1 2)) < p
    · rw [if_pos q2, if_pos q2]
      simp only [Int32.add_zero]
    · rw [if_neg q2, if_neg q2]
      rfl
theorem Mrest {p g v3 v4 v5 v : Int32} (hT : okT (m.1 2)) (h16 : m.1 0 16 = 0) (h0 : 0 < mm_ns (m.1 2)) : F7_rests_80 p g v3 v4 v5 v 1 0 m = some (.inl (v4 + mm_rest (fun v c => mm_has (mm_JP (m.1 2) (m.1 3) (m.1 4)) (mm_JJ (m.1 2) (m.1 3) (m.1 4)) (mm_JT (m.1 2) (m.1 4) g) (mm_nc (m.1 2)) p v c) v (mm_nc (m.1 2)), (if mm_rest (fun v c => mm_has (mm_JP (m.1 2) (m.1 3) (m.1 4)) (mm_JJ (m.1 2) (m.1 3) (m.1 4)) (mm_JT (m.1 2) (m.1 4) g) (mm_nc (m.1 2)) p v c) v (mm_nc (m.1 2)) = 0 then v5 else if v4 = 0 then v else v5), v + 1, m)) := by
  obtain ⟨e40, h40⟩ := hT.nc
  obtain ⟨H, hH⟩ : ∃ H : Int32 → Nat → Int32, H = (fun v c => mm_has (mm_JP (m.1 2) (m.1 3) (m.1 4)) (mm_JJ (m.1 2) (m.1 3) (m.1 4)) (mm_JT (m.1 2) (m.1 4) g) (mm_nc (m.1 2)) p v c) := ⟨_, rfl⟩
  rw [← hH]
  have hm : ∀ (w : Int32) (c : Nat), c < mm_nc (m.1 2) → F7_jarHas (nI c) w p g m = some (H w c, m) := fun w c hc => by
    rw [Mhas hT h16 h0 hc, hH]
  unfold F7_rests_80
  refine Ev.up (S := fun c => (mm_rest H v c, nI c, m)) (N := mm_nc (m.1 2)) (fun c hc => ?_) ?_ (FU_gt (by omega)) (by rw [nI_0, mm_rest])
  · simp only [F7_rests_80b, F7_rests_129, F7_rests_130, gI_def, e40, if_neg (nI_ge hc (show mm_nc (m.1 2) < 2 ^ 31 by omega)), hm _ c hc, bind_e, sx_let_e, px_p1, mm_rest]
    by_cases q : mm_rest H v c = 0
    · rw [if_pos q, if_pos q]
    · rw [if_neg q, if_neg q]
      by_cases q2 : H v c < H (v ^^^ ((1 : Int32) <<< (nI c &&& 31))) c
      · rw [if_pos q2, if_pos q2]
      · rw [if_neg q2, if_neg q2]
  · simp only [F7_rests_80b, F7_rests_153, F7_rests_155, F7_rests_169, gI_def, e40, if_pos (nI_le (Nat.le_refl (mm_nc (m.1 2))) (show mm_nc (m.1 2) < 2 ^ 31 by omega)), sx_let_e, Option.map_some]
    rcases rest01 H v (mm_nc (m.1 2)) with q | q
    · simp only [q, if_true, Option.map_some]
    · simp only [q, show ¬ ((1 : Int32) = 0) from by decide, if_false]
      by_cases q4 : v4 = 0
      · rw [if_pos q4, if_pos q4]; rfl
      · rw [if_neg q4, if_neg q4]; rfl
theorem rests_bo (h : RR x m) (v1 v2 v3 : Int32) : Bo (F6_rests v1 v2 v3 x) (F7_rests v1 v2 v3 m) := by
  unfold F7_rests F7_rests_35
  simp only [sx_let_e]
  have h := h.t0
  generalize sI m 0 0 0 = m at h ⊢
  have hT := h.1.1
  have h16 := h.2.2.2.2.2.2.2.2
  obtain ⟨e40, h40⟩ := hT.nc
  obtain ⟨e41, h41⟩ := hT.ns
  unfold F6_rests F6_rests_30
  simp only [Xin, Min, bind_e, gI_def, h.1.2.2.1]
  by_cases c1 : wi v1 1 999 = 0
  · rw [if_pos c1, if_pos c1]; exact Bo.ret h
  rw [if_neg c1, if_neg c1]
  by_cases c2 : wi v2 0 99 = 0
  · rw [if_pos c2, if_pos c2]; exact Bo.ret h
  rw [if_neg c2, if_neg c2]
  by_cases c3 : wi v3 0 1 = 0
  · rw [if_pos c3, if_pos c3]; exact Bo.ret h
  rw [if_neg c3, if_neg c3]
  by_cases c4 : m.1 2 41 = 0
  · rw [if_pos c4, if_pos c4]; exact Bo.ret h
  rw [if_neg c4, if_neg c4]
  have h0 : 0 < mm_ns (m.1 2) := Nat.pos_of_ne_zero (fun e => c4 (by rw [e41, e, nI_0]))
  obtain ⟨⟨u, y⟩, q1, q2, q3⟩ := Xfill (p := v1) (g := v2) h.1.2 h.2.2.1.1 hT h0 (h.2.1 0 (by omega))
  simp only at q2 q3
  rw [q1]
  simp only [bind_e]
  have p8 := pow8 h40
  unfold F6_rests_61 F7_rests_60
  refine Ev2.bo (Ev2.loop (fun k s t => ∃ a b, s = (a, b, nI k, y) ∧ t = (a, b, nI k, m)) (2 ^ mm_nc (m.1 2)) (fun k s t hk hI => ?_) (fun s t hI => ?_) ⟨0, -9, by rw [nI_0], by rw [nI_0]⟩ (FU_gt (by omega)))
  · obtain ⟨a, b, rfl, rfl⟩ := hI
    have ey : y.1 1 0 = nI (mm_nc (m.1 2)) := by rw [q3.1 1 (by omega), h.1.2.1, e40]
    simp only [F6_rests_61b, F6_rests_99, F6_rests_96, F7_rests_60b, gI_def, ey, e40, shl8 h40, if_neg (nI_ge hk (show 2 ^ mm_nc (m.1 2) < 2 ^ 31 by omega)), Xrest q2 h40, Mrest hT h16 h0, bind_e, sx_let_e, px_p1]
    rcases rest01 (fun v c => mm_has (mm_JP (m.1 2) (m.1 3) (m.1 4)) (mm_JJ (m.1 2) (m.1 3) (m.1 4)) (mm_JT (m.1 2) (m.1 4) v2) (mm_nc (m.1 2)) v1 v c) (nI k) (mm_nc (m.1 2)) with q | q
    · simp only [q, if_true, Int32.add_zero]
      exact Ev2.ret ⟨_, _, rfl, rfl, a, b, rfl, rfl⟩
    · simp only [q, show ¬ ((1 : Int32) = 0) from by decide, if_false]
      by_cases q4 : a = 0
      · rw [if_pos q4, if_pos q4]
        exact Ev2.ret ⟨_, _, rfl, rfl, _, _, rfl, rfl⟩
      · rw [if_neg q4, if_neg q4]
        exact Ev2.ret ⟨_, _, rfl, rfl, _, _, rfl, rfl⟩
  · obtain ⟨a, b, rfl, rfl⟩ := hI
    have ey : y.1 1 0 = nI (mm_nc (m.1 2)) := by rw [q3.1 1 (by omega), h.1.2.1, e40]
    simp only [F6_rests_61b, F7_rests_60b, gI_def, ey, e40, shl8 h40, if_pos (nI_le (Nat.le_refl (2 ^ mm_nc (m.1 2))) (show 2 ^ mm_nc (m.1 2) < 2 ^ 31 by omega))]
    by_cases q : v3 = 0
    · rw [if_pos q, if_pos q]
      exact Ev2.ret ⟨_, _, rfl, rfl, rfl, h.keepX q3⟩
    · rw [if_neg q, if_neg q]
      exact Ev2.ret ⟨_, _, rfl, rfl, rfl, h.keepX q3⟩
theorem blamed_bo (h : RR x m) (v1 v2 : Int32) : Bo (F6_blamed v1 v2 x) (F7_blamed v1 v2 m) := by
  unfold F7_blamed F7_blamed_35
  simp only [sx_let_e]
  have h := h.t0
  generalize sI m 0 0 0 = m at h ⊢
  have hT := h.1.1
  have h16 := h.2.2.2.2.2.2.2.2
  obtain ⟨e40, h40⟩ := hT.nc
  obtain ⟨e41, h41⟩ := hT.ns
  unfold F6_blamed F6_blamed_30
  simp only [Xin, Min, bind_e, gI_def, h.1.2.2.1, h.1.2.1]
  by_cases c1 : wi v1 1 999 = 0
  · rw [if_pos c1, if_pos c1]; exact Bo.ret h
  rw [if_neg c1, if_neg c1]
  by_cases c2 : wi v2 0 (((1 : Int32) <<< (m.1 2 40 &&& 31)) - 1) = 0
  · rw [if_pos c2, if_pos c2]; exact Bo.ret h
  rw [if_neg c2, if_neg c2]
  by_cases c4 : m.1 2 41 = 0
  · rw [if_pos c4, if_pos c4]; exact Bo.ret h
  rw [if_neg c4, if_neg c4]
  have h0 : 0 < mm_ns (m.1 2) := Nat.pos_of_ne_zero (fun e => c4 (by rw [e41, e, nI_0]))
  obtain ⟨⟨u, y⟩, q1, q2, q3⟩ := Xfill (p := v1) (g := 0) h.1.2 h.2.2.1.1 hT h0 (h.2.1 0 (by omega))
  simp only at q2 q3
  rw [q1]
  obtain ⟨X, hX⟩ : ∃ X, X = mm_jp (mm_JP (m.1 2) (m.1 3) (m.1 4)) v2 (mm_nc (m.1 2)) := ⟨_, rfl⟩
  simp only [bind_e, F2_blamedFor, Xjp q2 h40, Mjp hT h16 h0, sx_let_e, gI_def, q2.1, ← hX]
  by_cases c5 : X < v1
  · rw [if_pos c5]
    have c6 : ¬ v1 ≤ X := fun z => (le_nlt.mp z) c5
    have key : Ev2 (F2_blamedFor_19 v2 X 0 y) (F7_blamed_59 v1 v2 X 0 m) (fun r t => r.1 = t.1 ∧ RR r.2 t.2) := by
      unfold F2_blamedFor_19 F7_blamed_59
      refine Ev2.loopB (fun k s t => s = (nI k, y) ∧ t = (nI k, m)) (mm_nc (m.1 2)) (fun k s t hk hI => ?_) (fun s t hI => ?_) ⟨by rw [nI_0], by rw [nI_0]⟩ (FU_gt (by omega))
      · obtain ⟨rfl, rfl⟩ := hI
        have hjs := js_lt (U := m.1 3) (S := m.1 4) hT h0 k
        have hh := (hT.2.2.2.2.2.2.2 _ hjs).1.ne0 (by omega) (by omega)
        have mp := Mpages (m := m) (c := k) (k := mm_js (m.1 2) (m.1 3) (m.1 4) k) (by omega) (by omega) hh
        simp (disch := omega) only [F2_blamedFor_19b, F2_blamedFor_52, F7_blamed_59b, F7_blamed_106, gI_def, q2.1, q2.2.1, (q2.2.2 k hk).1, e40, if_neg (nI_ge hk (show mm_nc (m.1 2) < 2 ^ 31 by omega)), if_neg c6, Mjs hT h16 (show k < 8 by omega), mp, bind_e, sx_let_e, Int32.add_zero, px_m3, px_a3, px_a24, px_a36, px_a42, px_m27, px_p1, px_p2, px_p3, nI_add, nI_clamp, sx_ixN, if_true, Bool.false_eq_true, if_false]
        by_cases q : (v2 >>> (nI k &&& 31)) &&& 1 = 0
        · rw [if_pos q, if_pos q]
          have eP : mm_JP (m.1 2) (m.1 3) (m.1 4) k = mm_pages (m.1 2) k (mm_js (m.1 2) (m.1 3) (m.1 4) k) := rfl
          rw [eP]
          by_cases q5 : X + mm_pages (m.1 2) k (mm_js (m.1 2) (m.1 3) (m.1 4) k) < v1
          · rw [if_pos q5, if_pos q5]
            exact Ev2.ret (Or.inl ⟨_, _, rfl, rfl, rfl, rfl⟩)
          · rw [if_neg q5, if_neg q5]
            exact Ev2.ret (Or.inr ⟨_, _, rfl, rfl, rfl, h.keepX q3⟩)
        · rw [if_neg q, if_neg q]
          exact Ev2.ret (Or.inl ⟨_, _, rfl, rfl, rfl, rfl⟩)
      · obtain ⟨rfl, rfl⟩ := hI
        simp only [F2_blamedFor_19b, F7_blamed_59b, F7_blamed_112, gI_def, q2.2.1, e40, if_pos (nI_le (Nat.le_refl (mm_nc (m.1 2))) (show mm_nc (m.1 2) < 2 ^ 31 by omega)), Option.map_some]
        exact Ev2.ret ⟨_, _, rfl, rfl, rfl, h.keepX q3⟩
    obtain ⟨⟨r, z⟩, ⟨t, n2⟩, e1, e2, p1, p2⟩ := key
    rw [e1, e2]
    simp only [bind_e]
    exact Bo.ret2 p1 p2
  · rw [if_neg c5]
    have c6 : v1 ≤ X := le_nlt.mpr c5
    have key : F7_blamed_59 v1 v2 X 0 m = some (-9, m) := by
      unfold F7_blamed_59
      refine Ev.up (S := fun c => (0, m)) (N := 0) (fun c hc => by omega) ?_ (FU_gt (by omega)) rfl
      simp only [F7_blamed_59b, F7_blamed_112, gI_def, if_pos c6, Option.map_some, ite_self]
    rw [key]
    simp only [bind_e]
    exact Bo.ret (h.keepX q3)
end RESTS
