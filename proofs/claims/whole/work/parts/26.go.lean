section CALLS3
variable {x m : SQ}
theorem upd_self {f : Nat → Int32} {k : Nat} {v : Int32} (h : f k = v) : upd f k v = f := by
  funext j
  by_cases e : j = k
  · rw [e, upd_eq, h]
  · rw [upd_ne _ _ e]
/-- NOW becomes another row -/
theorem RR.now (h : RR x m) {y : SQ} {S : Nat → Int32} (hO : Only (fun o => 19 ≤ o ∧ o ≤ 19 + 3) x y) (hR : XR y 19 (mm_nc (m.1 2)) S) (hS : okS (m.1 2) S) (h0 : inN (S 0) 0 99) (h2 : S 2 = m.1 4 2) : RR y (sA m 4 S) := by
  obtain ⟨⟨t1, t2⟩, u, -, ⟨n, k1, k2, k3, k4⟩, ⟨w, x1, x2, x3, x4⟩, ⟨i1, i2⟩, l, a, b⟩ := h
  have E : ∀ o, ¬ (19 ≤ o ∧ o ≤ 22) → y.1 o = x.1 o := fun o ho => hO.1 o (by omega)
  have F : ∀ o, o ≠ 4 → (sA m 4 S).1 o = m.1 o := fun o ho => sA_ne _ _ ho
  unfold RR RT RU RN RK RX RI RI1
  rw [F 2 (by omega), F 3 (by omega), F 5 (by omega), F 6 (by omega), F 9 (by omega), F 10 (by omega), F 1 (by omega), F 0 (by omega), sA_two, sA_eq, hO.2, h2, E 0 (by omega), E 23 (by omega), E 34 (by omega), E 35 (by omega), E 36 (by omega), E 8 (by omega), E 9 (by omega), E 24 (by omega), E 29 (by omega)]
  refine ⟨⟨t1, t2.cong (fun o _ h2 => E o (by omega))⟩, u, ⟨hR, hS, h0⟩, ⟨n, k1, k2, k3, k4⟩, ⟨w, x1, x2, x3, x4⟩, ⟨?_, ?_⟩, l, a, b⟩
  · exact ⟨i1.1, i1.2.1, fun hj => ⟨(i1.2.2 hj).1, (i1.2.2 hj).2.1.cong (fun o _ h2 => E o (by omega)), (i1.2.2 hj).2.2⟩⟩
  · exact ⟨i2.1, i2.2.1, fun hj => ⟨(i2.2.2 hj).1, (i2.2.2 hj).2.1.cong (fun o _ h2 => E o (by omega)), (i2.2.2 hj).2.2⟩⟩
theorem anew_bo (h : RR x m) : Bo (F6_anew x) (F7_anew m) := by
  unfold F7_anew F6_anew
  simp only [sx_let, Option.bind_some, Option.map_some]
  have h := h.t0
  generalize sI m 0 0 0 = m at h ⊢
  have hT := h.1.1
  rw [Mbegins (by omega)]
  obtain ⟨⟨u, y⟩, e, hR, hO⟩ := Xbegin (m.1 4) 0 (k := 19) h.1.2 hT (fun o h1 h2 => by omega)
  rw [e]
  simp only [sx_let, Option.bind_some, Option.map_some]
  refine Bo.ret2 h.2.2.1.1.1 (h.now hO ?_ (begin_ok hT _) ?_ (begin_0 _ _).2.2)
  · rw [upd_self (begin_0 _ _).1] at hR
    exact hR
  · rw [(begin_0 _ _).1]
    exact ⟨0, by omega, by omega, rfl⟩
/-- a day goes by on both sides -/
theorem pass_both (h : RR x m) {d : Nat} (hd : m.1 4 0 = nI d) (hd2 : d < 99) : ∃ (p : Int32) (y : SQ) (S : Nat → Int32), F0_pass 19 1 x = some (p, y) ∧ F7_goesBy 4 m = some (p, sA m 4 S) ∧ RR y (sA m 4 S) ∧ S 0 = nI (d + 1) := by
  have hT := h.1.1
  have hU := h.2.1
  have h16 := h.2.2.2.2.2.2.2.2
  obtain ⟨⟨p, y⟩, e, e2, hR, hO⟩ := Xpass (U := m.1 3) h.1.2 h.2.2.1.1 hT h.2.2.1.2.1 hU (fun o h1 h2 => by omega) (by omega)
  have hm := Mday (m := m) (r := 4) (by omega) hT h.2.2.1.2.1
  rw [h16] at hm
  have hd3 : (mm_day (m.1 2) 0 (m.1 3) (m.1 4)).1 0 = nI (d + 1) := by rw [day_0, hd, nI_1]
  refine ⟨p, y, _, e, by rw [hm, show p = _ from e2], h.now hO hR (day_ok h.2.2.1.2.1) ?_ day_2, hd3⟩
  rw [hd3]
  exact ⟨d + 1, by omega, by omega, rfl⟩
theorem go_bo (h : RR x m) (n : Int32) : Bo (F6_go n x) (F7_go n m) := by
  unfold F7_go
  simp only [sx_let, Option.bind_some, Option.map_some]
  have h := h.t0
  generalize sI m 0 0 0 = m at h ⊢
  obtain ⟨d, -, d2, ed⟩ := h.2.2.1.2.2
  have ex : x.1 19 0 = nI d := h.2.2.1.1.1.trans ed
  unfold F6_go
  simp only [Xin, Min, sx_let, Option.bind_some, Option.map_some, gI_def, ex, ed]
  rcases wi_lit n (a := 1) (b := 99) (by omega) (by omega) 1 99 rfl rfl with ⟨i, i1, hi, rfl, e2⟩ | ⟨e2, hne⟩
  · rw [e2]
    simp only [show ¬ ((1 : Int32) = 0) from by decide, if_false, px_l99]
    by_cases hd : d = 99
    · subst hd
      rw [if_pos rfl, if_neg (nI_nlt (Nat.le_refl 99) (by omega))]
      exact Bo.ret h
    · rw [if_pos (nI_lt (show d < 99 by omega) (by omega)), if_neg (fun e => hd ((nI_eq (by omega) (by omega)).mp e))]
      have emin : (if nI 99 - nI d < nI i then nI 99 - nI d else nI i) = nI (if 99 - d < i then 99 - d else i) := by
        rw [pk_sub (by omega)]
        by_cases q : 99 - d < i
        · rw [if_pos q, if_pos (nI_lt q (by omega))]
        · rw [if_neg q, if_neg (nI_nlt (by omega) (by omega))]
      rw [emin]
      obtain ⟨K, hK⟩ : ∃ K, K = if 99 - d < i then 99 - d else i := ⟨_, rfl⟩
      rw [← hK]
      have k1 : K ≤ i ∧ d + K ≤ 99 ∧ (K = i ∨ d + K = 99) := by
        rw [hK]
        split <;> omega
      unfold F6_go_44 F7_go_33
      refine Ev2.bo (Ev2.loop (fun k s t => ∃ y n2, s = (nI k, y) ∧ t = (nI k, n2) ∧ RR y n2 ∧ n2.1 4 0 = nI (d + k)) K (fun k s t hk hI => ?_) (fun s t hI => ?_) ⟨x, m, rfl, rfl, h, ed⟩ (FU_gt (by omega)))
      · obtain ⟨y, n2, rfl, rfl, hR, hday⟩ := hI
        obtain ⟨p, y2, S, q1, q2, q3, q4⟩ := pass_both hR hday (by omega)
        simp only [F6_go_44b, if_neg (nI_ge hk (show K < 2 ^ 31 by omega)), q1, sx_let, Option.bind_some, Option.map_some, F7_go_33b, F7_go_64, if_neg (nI_ge (show k < i by omega) (show i < 2 ^ 31 by omega)), gI_def, hday, px_l99, if_neg (nI_ge (show d + k < 99 by omega) (show 99 < 2 ^ 31 by omega)), q2, nI_1]
        exact Ev2.ret ⟨_, _, rfl, rfl, _, _, rfl, rfl, q3, by rw [sA_eq]; exact q4⟩
      · obtain ⟨y, n2, rfl, rfl, hR, hday⟩ := hI
        simp only [F6_go_44b, if_pos (nI_le (Nat.le_refl K) (show K < 2 ^ 31 by omega)), F7_go_33b, F7_go_64, gI_def, hday, px_l99, sx_let, Option.bind_some, Option.map_some]
        by_cases q : K = i
        · subst q
          rw [if_pos (nI_le (Nat.le_refl K) (by omega))]
          exact Ev2.ret ⟨_, _, rfl, rfl, rfl, hR⟩
        · rw [if_neg (nI_ge (by omega) (by omega)), if_pos (nI_le (show 99 ≤ d + K by omega) (by omega))]
          exact Ev2.ret ⟨_, _, rfl, rfl, rfl, hR⟩
  · rw [e2]
    exact Bo.ret h
end CALLS3
