/-! ending -/
theorem bind_e {α β : Type} (a : α) (f : α → Option β) : (some a).bind f = f a := by
  have e : ∀ u : Unit, (some a).bind f = f a := fun u => by cases u; rfl
  exact e ()
theorem upd_upd (f : Nat → Int32) (k : Nat) (a b : Int32) : upd (upd f k a) k b = upd f k b := by
  funext j
  by_cases q : j = k
  · rw [q, upd_eq, upd_eq]
  · rw [upd_ne _ _ q, upd_ne _ _ q, upd_ne _ _ q]
theorem Al.rf (T : Nat → Int32) (b : Int32) : Al T T b b := ⟨fun _ _ _ => rfl, fun _ _ _ => rfl⟩
theorem Ev2.pos {α β : Type} {c : Prop} [Decidable c] {a1 a2 : Option α} {b : Option β} {P : α → β → Prop} (h : c) (k : Ev2 a1 b P) : Ev2 (if c then a1 else a2) b P := by rw [if_pos h]; exact k
theorem px_l20 : (20 : Int32) = nI 20 := by decide
theorem px_l21 : (21 : Int32) = nI 21 := by decide
section ENDING
variable {x m : SQ}
theorem end_both {y n : SQ} {d : Nat} {T1 : Nat → Int32} (hd : d ≤ 99) (hX : XT y 41 T1) (h1 : okT T1) (h2 : okT (n.1 2)) (hA : Al T1 (n.1 2) 0 (n.1 0 16)) (hU : ∀ j, j < 6 → y.1 23 j = n.1 3 j) : ∃ r z S, F6_likingOn (nI d) y = some (r, z) ∧ F7_endOn (nI d) n = some (r, sA n 7 S) ∧ Only (fun o => 48 ≤ o ∧ o ≤ 51) y z := by
  obtain ⟨⟨r, z⟩, w1, w2, w3⟩ := Xends (U := n.1 3) (n.1 7) hX h1 hU hd
  have hm := MendOn (m := n) h2 hd
  rw [hA.ends h1 d] at hm
  exact ⟨r, z, _, w1, by rw [hm, show r = _ from w2], w3⟩
/-- what was put aside is put back -/
theorem RR.back (h : RR x m) {n : SQ} (ho : Only (fun o => o = 0 ∨ o = 2 ∨ o = 7) (sA m 8 (mm_cp (m.1 8) (m.1 2) 42)) n) (h0 : ∀ j, n.1 0 j = m.1 0 j) (hj : ∀ j, 42 ≤ j → n.1 2 j = m.1 2 j) : RR x (sA n 2 (mm_cp (n.1 2) (n.1 8) 42)) := by
  have e8 : n.1 8 = mm_cp (m.1 8) (m.1 2) 42 := by rw [ho.1 8 (by omega), sA_eq]
  have e2 : mm_cp (n.1 2) (n.1 8) 42 = m.1 2 := by
    funext j
    by_cases q : j < 42
    · rw [cp_lt _ _ q, e8, cp_lt _ _ q]
    · rw [cp_ge _ _ (by omega), hj j (by omega)]
  rw [e2]
  have e0 : (sA n 2 (m.1 2)).1 0 = n.1 0 := sA_ne _ _ (by omega)
  refine h.keepM (fun o a b c => ?_) (by rw [e0]; exact h0 3) (by rw [e0, h0 16]; exact h.2.2.2.2.2.2.2.2) (by rw [e0]; exact h0 19) ho.2
  by_cases q : o = 2
  · rw [q, sA_eq]
  · rw [sA_ne _ _ q, ho.1 o (by omega), sA_ne _ _ c]
theorem okT.s39 {T : Nat → Int32} (h : okT T) {v : Int32} (hv : inN v 0 20) : okT (upd T 39 v) := by
  have e1 : mm_nc (upd T 39 v) = mm_nc T := by unfold mm_nc; rw [upd_ne _ _ (by omega)]
  have e2 : mm_ns (upd T 39 v) = mm_ns T := by unfold mm_ns; rw [upd_ne _ _ (by omega)]
  have h1 := h.nc.2
  have h2 := h.ns.2
  unfold okT
  rw [e1, e2, upd_eq, upd_ne _ _ (show 40 ≠ 39 by omega), upd_ne _ _ (show 41 ≠ 39 by omega), upd_ne _ _ (show 36 ≠ 39 by omega), upd_ne _ _ (show 37 ≠ 39 by omega), upd_ne _ _ (show 38 ≠ 39 by omega)]
  obtain ⟨a1, a2, a3, a4, a5, a6, a7, a8⟩ := h
  refine ⟨a1, a2, a3, a4, hv, a6, fun c hc => ?_, fun k hk => ?_⟩
  · rw [upd_ne _ _ (show 3 * c ≠ 39 by omega), upd_ne _ _ (show 3 * c + 1 ≠ 39 by omega), upd_ne _ _ (show 3 * c + 2 ≠ 39 by omega)]
    exact a7 c hc
  · rw [upd_ne _ _ (show 24 + 3 * k ≠ 39 by omega), upd_ne _ _ (show 24 + 3 * k + 1 ≠ 39 by omega), upd_ne _ _ (show 24 + 3 * k + 2 ≠ 39 by omega)]
    exact a8 k hk
theorem XT.s39 {k : Nat} {T : Nat → Int32} (h : XT x k T) (hT : okT T) (v : Int32) : XT (sI x k 10 v) k (upd T 39 v) := by
  have e1 : mm_nc (upd T 39 v) = mm_nc T := by unfold mm_nc; rw [upd_ne _ _ (by omega)]
  have e2 : mm_ns (upd T 39 v) = mm_ns T := by unfold mm_ns; rw [upd_ne _ _ (by omega)]
  have h1 := hT.nc.2
  have h2 := hT.ns.2
  unfold XT
  rw [e1, e2, upd_eq, upd_ne _ _ (show 40 ≠ 39 by omega), upd_ne _ _ (show 41 ≠ 39 by omega), upd_ne _ _ (show 36 ≠ 39 by omega), upd_ne _ _ (show 37 ≠ 39 by omega), upd_ne _ _ (show 38 ≠ 39 by omega), sx_row, upd_eq, upd_ne _ _ (show 0 ≠ 10 by omega), upd_ne _ _ (show 1 ≠ 10 by omega), upd_ne _ _ (show 8 ≠ 10 by omega), upd_ne _ _ (show 9 ≠ 10 by omega), upd_ne _ _ (show 11 ≠ 10 by omega)]
  obtain ⟨x1, x2, x3, x4, x5, x6, x7, x8⟩ := h
  refine ⟨x1, x2, x3, x4, rfl, x6, fun c hc => ?_, fun s hs => ?_⟩
  · rw [upd_ne _ _ (show 3 * c ≠ 39 by omega), upd_ne _ _ (show 3 * c + 1 ≠ 39 by omega), upd_ne _ _ (show 3 * c + 2 ≠ 39 by omega), sx_row_ne _ _ _ (show k + 1 ≠ k by omega), sx_row_ne _ _ _ (show k + 2 ≠ k by omega), sx_row_ne _ _ _ (show k + 3 ≠ k by omega)]
    exact x7 c hc
  · rw [upd_ne _ _ (show 24 + 3 * s ≠ 39 by omega), upd_ne _ _ (show 24 + 3 * s + 1 ≠ 39 by omega), upd_ne _ _ (show 24 + 3 * s + 2 ≠ 39 by omega), sx_row_ne _ _ _ (show k + 4 ≠ k by omega), sx_row_ne _ _ _ (show k + 5 ≠ k by omega), sx_row_ne _ _ _ (show k + 6 ≠ k by omega)]
    exact x8 s hs
theorem ending_bo (h : RR x m) (v : Int32) : Bo (F6_ending v x) (F7_ending v m) := by
  unfold F7_ending
  simp only [sx_let_e]
  have h := h.t0
  generalize sI m 0 0 0 = m at h ⊢
  have hT := h.1.1
  have hU := h.2.1
  have h16 := h.2.2.2.2.2.2.2.2
  unfold F6_ending
  simp only [XisDay, MisDay, bind_e]
  rcases wi_lit v (a := 0) (b := 99) (by omega) (by omega) 0 99 rfl rfl with ⟨d, -, hd, rfl, e⟩ | ⟨e, -⟩
  · rw [e]
    obtain ⟨⟨u, y⟩, q1, q2, q3⟩ := Xcopy (k := 41) h.1.2 hT (by omega)
    simp only at q2 q3
    simp only [show ¬ ((1 : Int32) = 0) from by decide, if_false, q1, Maside1, bind_e]
    unfold F6_ending_27 F7_ending_26
    refine Ev2.bo (Ev2.loop (fun k s t => ∃ v2 v3 y2 n2 w, s = (v2, v3, nI k, y2) ∧ t = (v2, v3, nI k, n2) ∧ XT y2 41 (upd (m.1 2) 39 w) ∧ inN w 0 20 ∧ Only (fun o => 37 ≤ o) x y2 ∧ (∀ j, j ≠ 39 → n2.1 2 j = m.1 2 j) ∧ Only (fun o => o = 2 ∨ o = 7) (sA m 8 (mm_cp (m.1 8) (m.1 2) 42)) n2) 21 (fun k s t hk hI => ?_) (fun s t hI => ?_) ⟨0, -1, y, _, m.1 2 39, by rw [nI_0], by rw [nI_0], by rw [upd_self rfl]; exact q2, hT.2.2.2.2.1, q3.mono (fun o ho => by omega), fun j _ => by rw [sA_ne _ _ (by omega)], Only.rf _⟩ (FU_gt (by omega)))
    · obtain ⟨v2, v3, y2, n2, w, rfl, rfl, hX, hw, hO, hj, hM⟩ := hI
      have e1 : ¬ (20 : Int32) < nI k := by rw [px_l20]; exact nI_nlt (by omega) (by omega)
      have e2 : ¬ (21 : Int32) ≤ nI k := by rw [px_l21]; exact nI_ge hk (by omega)
      have hk20 : inN (nI k) 0 20 := ⟨k, by omega, by omega, rfl⟩
      have r2 : (sI n2 2 39 (nI k)).1 2 = upd (m.1 2) 39 (nI k) := by
        rw [sx_row]
        funext j
        by_cases q : j = 39
        · rw [q, upd_eq, upd_eq]
        · rw [upd_ne _ _ q, upd_ne _ _ q, hj j q]
      have r0 : (sI n2 2 39 (nI k)).1 0 = m.1 0 := by rw [sx_row_ne _ _ _ (by omega), hM.1 0 (by omega), sA_ne _ _ (by omega)]
      have r3 : (sI n2 2 39 (nI k)).1 3 = m.1 3 := by rw [sx_row_ne _ _ _ (by omega), hM.1 3 (by omega), sA_ne _ _ (by omega)]
      have hX2 : XT (sI y2 41 10 (nI k)) 41 (upd (m.1 2) 39 (nI k)) := by
        have := hX.s39 (hT.s39 hw) (nI k)
        rw [upd_upd] at this
        exact this
      have hO2 : Only (fun o => 37 ≤ o) x (sI y2 41 10 (nI k)) := hO.sI (by omega)
      obtain ⟨r, z, S, w1, w2, w3⟩ := end_both (y := sI y2 41 10 (nI k)) (n := sI n2 2 39 (nI k)) hd hX2 (hT.s39 hk20) (by rw [r2]; exact hT.s39 hk20) (by rw [r2, r0, h16]; exact Al.rf _ _) (fun j hj => by rw [hO2.1 23 (by omega), r3]; exact hU j hj)
      simp only [F6_ending_27b, F6_ending_62, F7_ending_26b, F7_ending_61, F7_ending_74, if_neg e1, if_neg e2, sx_let_e, w1, w2, bind_e, px_p1]
      have hX3 : XT z 41 (upd (m.1 2) 39 (nI k)) := hX2.cong (fun o h1 h2 => w3.1 o (by omega))
      have hO3 : Only (fun o => 37 ≤ o) x z := hO2.tr (w3.mono (fun o ho => by omega))
      have hj3 : ∀ j, j ≠ 39 → (sA (sI n2 2 39 (nI k)) 7 S).1 2 j = m.1 2 j := fun j hjj => by
        rw [sA_ne _ _ (by omega), r2, upd_ne _ _ hjj]
      have hM3 : Only (fun o => o = 2 ∨ o = 7) (sA m 8 (mm_cp (m.1 8) (m.1 2) 42)) (sA (sI n2 2 39 (nI k)) 7 S) := (hM.sI (by omega)).sA (by omega)
      by_cases q : r ≤ v3
      · simp only [if_pos q]
        exact Ev2.ret ⟨_, _, rfl, rfl, v2, v3, z, _, nI k, rfl, rfl, hX3, hk20, hO3, hj3, hM3⟩
      · simp only [if_neg q]
        exact Ev2.ret ⟨_, _, rfl, rfl, nI k, r, z, _, nI k, rfl, rfl, hX3, hk20, hO3, hj3, hM3⟩
    · obtain ⟨v2, v3, y2, n2, w, rfl, rfl, hX, hw, hO, hj, hM⟩ := hI
      have e1 : (20 : Int32) < nI 21 := by decide
      have e2 : (21 : Int32) ≤ nI 21 := by decide
      simp only [F6_ending_27b, F7_ending_26b, if_pos e1, if_pos e2, Maside0, bind_e]
      exact Ev2.ret ⟨_, _, rfl, rfl, rfl, (h.back (hM.mono (fun o ho => by omega)) (fun j => by rw [hM.1 0 (by omega), sA_ne _ _ (by omega)]) (fun j hj2 => hj j (by omega))).keepX hO⟩
  · rw [e]
    exact Bo.ret h
end ENDING
