/-! line, stays -/
theorem nI_ne9 {k : Nat} (h : k < 2 ^ 31) : ¬ nI k = -9 := fun e => nI_pos h (by rw [e]; decide)
section LINE2
variable {x m : SQ}
theorem Mline132 (v : Int32) : F7_line_132 v m = some (v, sA m 2 (mm_cp (m.1 2) (m.1 8) 42)) := by
  unfold F7_line_132
  simp only [Maside0, bind_e]
theorem line_bo (h : RR x m) (v1 v2 v3 : Int32) : Bo (F6_line v1 v2 v3 x) (F7_line v1 v2 v3 m) := by
  unfold F7_line F7_line_32
  simp only [sx_let_e]
  have h := h.t0
  generalize sI m 0 0 0 = m at h ⊢
  have hT := h.1.1
  have hU := h.2.1
  have h16 := h.2.2.2.2.2.2.2.2
  unfold F6_line F6_line_27
  simp only [XisDay, MisDay, Xin, Min, bind_e]
  rcases wi_lit v1 (a := 1) (b := 9) (by omega) (by omega) 1 9 rfl rfl with ⟨b, b1, b2, rfl, e1⟩ | ⟨e1, -⟩
  · rw [e1]
    simp only [show ¬ ((1 : Int32) = 0) from by decide, if_false]
    rcases wi_lit v2 (a := 0) (b := 9) (by omega) (by omega) 0 9 rfl rfl with ⟨c, -, c2, rfl, e2⟩ | ⟨e2, -⟩
    · rw [e2]
      simp only [show ¬ ((1 : Int32) = 0) from by decide, if_false]
      rcases wi_lit v3 (a := 0) (b := 99) (by omega) (by omega) 0 99 rfl rfl with ⟨d, -, hd, rfl, e⟩ | ⟨e, -⟩
      · rw [e]
        simp only [show ¬ ((1 : Int32) = 0) from by decide, if_false, Maside1, bind_e]
        have hb : inN (nI b) 1 9 := ⟨b, b1, b2, rfl⟩
        have hc : inN (nI c) 0 9 := ⟨c, by omega, c2, rfl⟩
        unfold F6_line_32 F7_line_68
        refine Ev2.bo (Ev2.loopE (fun k s t => ∃ y2 n2, s = (nI k, y2) ∧ t = (-9, nI k, n2) ∧ Only (fun o => 37 ≤ o) x y2 ∧ (∀ a, upd (n2.1 2) 0 a = mm_one (m.1 2) a (nI b) (nI c)) ∧ (∀ j, n2.1 0 j = m.1 0 j) ∧ Only (fun o => o = 0 ∨ o = 2 ∨ o = 7) (sA m 8 (mm_cp (m.1 8) (m.1 2) 42)) n2) 101 (fun k s t hk hI => ?_) (fun s t hI => ?_) ⟨x, _, by rw [nI_0], by rw [nI_0], Only.rf x, fun a => ?_, fun j => ?_, (((Only.rf _).sI (by omega)).sI (by omega)).sI (by omega)⟩ (FU_gt1 (by omega)))
        · obtain ⟨y2, n2, rfl, rfl, hO, hone, h0, hM⟩ := hI
          have f1 : ¬ (100 : Int32) < nI k := by rw [px_l100]; exact nI_nlt (by omega) (by omega)
          have f2 : ¬ (101 : Int32) ≤ nI k := by rw [px_l101]; exact nI_ge hk (by omega)
          have hka : inN (nI k) 0 100 := ⟨k, by omega, by omega, rfl⟩
          obtain ⟨⟨u, y3⟩, q1, q2, q3⟩ := Xcopy (k := 41) (h.1.2.cong (y := y2) (fun o h1 h2 => hO.1 o (by omega))) hT (by omega)
          simp only at q2 q3
          obtain ⟨⟨u4, y4⟩, p1, p2, p3⟩ := Xteach q2 hT (nI k) (nI b) (nI c)
          simp only at p2 p3
          have hok := one_ok hT hka hb hc
          have r2 : (sI n2 2 0 (nI k)).1 2 = mm_one (m.1 2) (nI k) (nI b) (nI c) := by rw [sx_row]; exact hone _
          have r0 : (sI n2 2 0 (nI k)).1 0 16 = 0 := by rw [sx_row_ne _ _ _ (by omega), h0 16, h16]
          have r3 : (sI n2 2 0 (nI k)).1 3 = m.1 3 := by rw [sx_row_ne _ _ _ (by omega), hM.1 3 (by omega), sA_ne _ _ (by omega)]
          have hO4 : Only (fun o => 37 ≤ o) x y4 := (hO.tr (q3.mono (fun o ho => by omega))).tr (p3.mono (fun o ho => by omega))
          obtain ⟨ra, z, S, w1, w2, w3⟩ := end_both (y := y4) (n := sI n2 2 0 (nI k)) hd p2 hok (by rw [r2]; exact hok) (by rw [r2, r0]; exact Al.rf _ _) (fun j hj => by rw [hO4.1 23 (by omega), r3]; exact hU j hj)
          have hXz : XT z 41 (mm_one (m.1 2) (nI k) (nI b) (nI c)) := p2.cong (fun o h1 h2 => w3.1 o (by omega))
          obtain ⟨⟨u5, y5⟩, g1, g2, g3⟩ := Xnopay hXz hok
          simp only at g2 g3
          have hO5 : Only (fun o => 37 ≤ o) x y5 := (hO4.tr (w3.mono (fun o ho => by omega))).tr (g3.mono (fun o ho => by omega))
          have s2 : (sI (sA (sI n2 2 0 (nI k)) 7 S) 0 16 1).1 2 = mm_one (m.1 2) (nI k) (nI b) (nI c) := by rw [sx_row_ne _ _ _ (by omega), sA_ne _ _ (by omega), r2]
          have s0 : (sI (sA (sI n2 2 0 (nI k)) 7 S) 0 16 1).1 0 16 = 1 := by rw [sx_row, upd_eq]
          have s3 : (sI (sA (sI n2 2 0 (nI k)) 7 S) 0 16 1).1 3 = m.1 3 := by rw [sx_row_ne _ _ _ (by omega), sA_ne _ _ (by omega), r3]
          obtain ⟨rb, z6, S6, v1, v2, v3⟩ := end_both (y := y5) (n := sI (sA (sI n2 2 0 (nI k)) 7 S) 0 16 1) hd g2 (bare_ok hok) (by rw [s2]; exact hok) (by rw [s2, s0]; exact bare_al _) (fun j hj => by rw [hO5.1 23 (by omega), s3]; exact hU j hj)
          have hO6 : Only (fun o => 37 ≤ o) x z6 := hO5.tr (v3.mono (fun o ho => by omega))
          obtain ⟨n3, hn3⟩ : ∃ n3, n3 = sI (sA (sI (sA (sI n2 2 0 (nI k)) 7 S) 0 16 1) 7 S6) 0 16 0 := ⟨_, rfl⟩
          have a1 : ∀ a, upd (n3.1 2) 0 a = mm_one (m.1 2) a (nI b) (nI c) := fun a => by
            rw [hn3, sx_row_ne _ _ _ (by omega), sA_ne _ _ (by omega), s2]
            unfold mm_one
            rw [upd_upd]
          have a2 : ∀ j, n3.1 0 j = m.1 0 j := fun j => by
            rw [hn3, sx_row]
            by_cases q : j = 16
            · rw [q, upd_eq, h16]
            · rw [upd_ne _ _ q, sA_ne _ _ (by omega), sx_row, upd_ne _ _ q, sA_ne _ _ (by omega), sx_row_ne _ _ _ (by omega), h0 j]
          have a3 : Only (fun o => o = 0 ∨ o = 2 ∨ o = 7) (sA m 8 (mm_cp (m.1 8) (m.1 2) 42)) n3 := by
            rw [hn3]
            exact ((((hM.sI (by omega)).sA (by omega)).sI (by omega)).sA (by omega)).sI (by omega)
          simp only [F6_line_32b, F7_line_68b, F7_line_119, if_neg f1, if_neg f2, if_true, q1, p1, w1, w2, g1, v1, v2, sx_let_e, bind_e, px_p1, ← hn3]
          by_cases q : rb ≤ ra
          · simp only [if_pos q]
            exact Ev2.ret (Or.inl ⟨_, _, rfl, rfl, z6, n3, rfl, rfl, hO6, a1, a2, a3⟩)
          · simp only [if_neg q]
            refine Ev2.ret (Or.inr ⟨_, _, (nI k, sA n3 2 (mm_cp (n3.1 2) (n3.1 8) 42)), rfl, rfl, ?_, rfl, ?_⟩)
            · simp only [F7_line_68b, if_neg (nI_ne9 (show k < 2 ^ 31 by omega)), Mline132, Option.map_some, ite_self]
            · exact (h.back a3 a2 (fun j hj => by
                have := congrFun (a1 0) j
                rw [upd_ne _ _ (by omega)] at this
                by_cases q40 : j = 40
                · omega
                · rw [this, one_ge _ _ _ _ (by omega) q40])).keepX hO6
        · obtain ⟨y2, n2, rfl, rfl, hO, hone, h0, hM⟩ := hI
          have f1 : (100 : Int32) < nI 101 := by decide
          have f2 : (101 : Int32) ≤ nI 101 := by decide
          simp only [F6_line_32b, F7_line_68b, if_pos f1, if_pos f2, Mline132, Option.map_some]
          exact Ev2.ret ⟨_, _, rfl, rfl, rfl, (h.back hM h0 (fun j hj => by
                have := congrFun (hone 0) j
                rw [upd_ne _ _ (by omega)] at this
                by_cases q40 : j = 40
                · omega
                · rw [this, one_ge _ _ _ _ (by omega) q40])).keepX hO⟩
        · rw [sx_row, sx_row, sx_row, sA_ne _ _ (by omega)]
          rfl
        · rw [sx_row_ne _ _ _ (by omega), sx_row_ne _ _ _ (by omega), sx_row_ne _ _ _ (by omega), sA_ne _ _ (by omega)]
      · rw [e]
        exact Bo.ret h
    · rw [e2]
      exact Bo.ret h
  · rw [e1]
    exact Bo.ret h
end LINE2
