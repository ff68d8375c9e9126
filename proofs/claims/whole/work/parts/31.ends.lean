/-! end, term -/
theorem Al.ends {T T2 : Nat → Int32} {b b2 : Int32} (h : Al T T2 b b2) (hT : okT T) {U S : Nat → Int32} (n : Nat) : mm_end T2 b2 U S n = mm_end T b U S n := by
  unfold mm_end
  rw [h.nc, h.begin]
  exact mm_sum_cong _ (fun c _ => by rw [h.days hT n])
theorem Al.span {T T2 : Nat → Int32} {b b2 : Int32} (h : Al T T2 b b2) (hT : okT T) {U S : Nat → Int32} {A : Nat} : ∀ n, mm_span T2 b2 U S A n = mm_span T b U S A n
  | 0 => rfl
  | n + 1 => by rw [mm_span, mm_span, h.span hT n, h.begin, h.days hT n, h.day hT]
/-- the first n of g, the rest of f -/
def mm_cp (f g : Nat → Int32) : Nat → Nat → Int32
  | 0 => f
  | n + 1 => upd (mm_cp f g n) n (g n)
theorem cp_lt (f g : Nat → Int32) : ∀ {n j : Nat}, j < n → mm_cp f g n j = g j
  | 0, _, h => by omega
  | n + 1, j, h => by
    rw [mm_cp]
    by_cases e : j = n
    · rw [e, upd_eq]
    · rw [upd_ne _ _ e, cp_lt f g (show j < n by omega)]
theorem cp_ge (f g : Nat → Int32) : ∀ {n j : Nat}, n ≤ j → mm_cp f g n j = f j
  | 0, _, _ => rfl
  | n + 1, j, h => by rw [mm_cp, upd_ne _ _ (by omega), cp_ge f g (show n ≤ j by omega)]
section ENDS
variable {x m : SQ}
theorem RR.s7 (h : RR x m) (f : Nat → Int32) : RR x (sA m 7 f) := by
  have e : (sA m 7 f).1 0 = m.1 0 := sA_ne _ _ (by omega)
  exact h.keepM (fun o _ h7 _ => sA_ne _ _ h7) (by rw [e]) (by rw [e]; exact h.2.2.2.2.2.2.2.2) (by rw [e]) rfl
theorem Maside1 : F7_aside 1 m = some ((), sA m 8 (mm_cp (m.1 8) (m.1 2) 42)) := by
  unfold F7_aside F7_aside_2
  refine Ev.up (S := fun c => (nI c, sA m 8 (mm_cp (m.1 8) (m.1 2) c))) (N := 42) (fun c hc => ?_) ?_ (FU_gt (by omega)) (by rw [nI_0, mm_cp, sA_self])
  · have e : ¬ (42 : Int32) ≤ nI c := by rw [px_l42]; exact nI_ge hc (by omega)
    have r2 : (sA m 8 (mm_cp (m.1 8) (m.1 2) c)).1 2 = m.1 2 := sA_ne _ _ (by omega)
    simp (disch := omega) only [F7_aside_2b, F7_aside_39, if_neg e, show ¬ ((1 : Int32) = 0) from by decide, Int32.add_zero, px_m3, px_a3, px_a24, px_a36, px_a42, px_m27, px_p1, px_p2, px_p3, nI_add, nI_clamp, sx_ixN, if_true, Bool.false_eq_true, if_false, sx_let, Option.bind_some, Option.map_some, gI_def, r2, sI_sA, mm_cp]
  · have e : (42 : Int32) ≤ nI 42 := by rw [← px_l42]; exact Int32.le_refl _
    simp only [F7_aside_2b, if_pos e]
    rfl
theorem Maside0 : F7_aside 0 m = some ((), sA m 2 (mm_cp (m.1 2) (m.1 8) 42)) := by
  unfold F7_aside F7_aside_2
  refine Ev.up (S := fun c => (nI c, sA m 2 (mm_cp (m.1 2) (m.1 8) c))) (N := 42) (fun c hc => ?_) ?_ (FU_gt (by omega)) (by rw [nI_0, mm_cp, sA_self])
  · have e : ¬ (42 : Int32) ≤ nI c := by rw [px_l42]; exact nI_ge hc (by omega)
    have r2 : (sA m 2 (mm_cp (m.1 2) (m.1 8) c)).1 8 = m.1 8 := sA_ne _ _ (by omega)
    simp (disch := omega) only [F7_aside_2b, F7_aside_39, if_neg e, Int32.add_zero, px_m3, px_a3, px_a24, px_a36, px_a42, px_m27, px_p1, px_p2, px_p3, nI_add, nI_clamp, sx_ixN, if_true, Bool.false_eq_true, if_false, sx_let, Option.bind_some, Option.map_some, gI_def, r2, sI_sA, mm_cp]
  · have e : (42 : Int32) ≤ nI 42 := by rw [← px_l42]; exact Int32.le_refl _
    simp only [F7_aside_2b, if_pos e]
    rfl
theorem end_bo (h : RR x m) (v : Int32) : Bo (F6_end v x) (F7_end v m) := by
  unfold F7_end
  simp only [sx_let, Option.bind_some, Option.map_some]
  have h := h.t0
  generalize sI m 0 0 0 = m at h ⊢
  have hT := h.1.1
  have hU := h.2.1
  have h16 := h.2.2.2.2.2.2.2.2
  unfold F6_end
  simp only [XisDay, MisDay, sx_let, Option.bind_some, Option.map_some]
  rcases wi_lit v (a := 0) (b := 99) (by omega) (by omega) 0 99 rfl rfl with ⟨d, -, hd, rfl, e⟩ | ⟨e, -⟩
  · rw [e]
    obtain ⟨⟨u, y⟩, q1, q2, q3⟩ := Xcopy (k := 41) h.1.2 hT (by omega)
    simp only at q2 q3
    obtain ⟨⟨r, z⟩, w1, w2, w3⟩ := Xends (U := m.1 3) (m.1 7) q2 hT (fun j hj => by rw [q3.1 23 (by omega)]; exact hU j hj) hd
    have hm := MendOn (m := m) hT hd
    rw [h16] at hm
    simp only [show ¬ ((1 : Int32) = 0) from by decide, if_false, q1, w1, hm, sx_let, Option.bind_some, Option.map_some]
    exact Bo.ret2 w2 ((h.s7 _).keepX ((q3.mono (fun o ho => by omega)).tr (w3.mono (fun o ho => by omega))))
  · rw [e]
    exact Bo.ret h
theorem Mterm {A : Nat} {s : Int32} (hs : s = 0 ∨ s = 1) (hT : okT (m.1 2)) (hA : A < 2 ^ 30) : F7_term_66 (nI A) s m = some (mm_span (m.1 2) s (m.1 3) (m.1 7) A (if A + 7 < 99 then A + 7 else 99), sI (sA (sI m 0 16 s) 7 (mm_days (m.1 2) s (m.1 3) (mm_begin (m.1 2) (m.1 7)) (if A + 7 < 99 then A + 7 else 99))) 0 16 0) := by
  have r2 : (sI m 0 16 s).1 2 = m.1 2 := sx_row_ne _ _ _ (by omega)
  have r3 : (sI m 0 16 s).1 3 = m.1 3 := sx_row_ne _ _ _ (by omega)
  have r7 : (sI m 0 16 s).1 7 = m.1 7 := sx_row_ne _ _ _ (by omega)
  have r0 : (sI m 0 16 s).1 0 16 = s := by rw [sx_row, upd_eq]
  have h := MpagesBy (m := sI m 0 16 s) (A := A) (B := A + 7) (by rw [r2]; exact hT) (by omega) (by omega)
  rw [r2, r3, r7, r0] at h
  unfold F7_term_66
  rw [if_pos (sx_bt_of hs)]
  simp only [sx_let, Option.bind_some, Option.map_some, show nI A + (7 : Int32) = nI (A + 7) from nI_add A 7, h]
theorem RR.sterm (h : RR x m) (s : Int32) (f : Nat → Int32) : RR x (sI (sA (sI m 0 16 s) 7 f) 0 16 0) := by
  have e : ∀ j, j ≠ 16 → (sI (sA (sI m 0 16 s) 7 f) 0 16 0).1 0 j = m.1 0 j := fun j hj => by
    rw [sx_row, upd_ne _ _ hj, sA_ne _ _ (by omega), sx_row, upd_ne _ _ hj]
  refine h.keepM (fun o h0 h7 _ => ?_) (e 3 (by omega)) (by rw [sx_row, upd_eq]) (e 19 (by omega)) rfl
  rw [sx_row_ne _ _ _ h0, sA_ne _ _ h7, sx_row_ne _ _ _ h0]
theorem Xterm {T U : Nat → Int32} (S : Nat → Int32) {A : Nat} (h1 : XT x 1 T) (h : XT x 41 T) (hT : okT T) (hU : ∀ j, j < 6 → x.1 23 j = U j) (e : T 37 + T 39 = nI A) (hA : A < 2 ^ 30) : Ev (F6_term_57 x) (fun z => z.1 = mm_span T 0 U S A (if A + 7 < 99 then A + 7 else 99) ∧ Only (fun o => 48 ≤ o ∧ o ≤ 51) x z.2) := by
  unfold F6_term_57
  have e7 : nI A + (7 : Int32) = nI (A + 7) := nI_add A 7
  have en : (if (99 : Int32) < nI (A + 7) then (99 : Int32) else nI (A + 7)) = nI (if A + 7 < 99 then A + 7 else 99) := by
    rw [px_l99]
    by_cases q : 99 < A + 7
    · rw [if_pos (nI_lt q (by omega)), if_neg (by omega)]
    · rw [if_neg (nI_nlt (by omega) (by omega))]
      by_cases q2 : A + 7 < 99
      · rw [if_pos q2]
      · rw [if_neg q2, show A + 7 = 99 by omega]
  obtain ⟨⟨r, z⟩, w1, w2, w3⟩ := Xbetween (A := A) (N := if A + 7 < 99 then A + 7 else 99) S h hT hU (by omega) (by split <;> omega)
  simp only [sx_let, Option.bind_some, Option.map_some, gI_def, h1.2.2.2.1, h1.2.2.2.2.1, e, e7, en, w1]
  exact Ev.ret ⟨w2, w3⟩
theorem term_bo (h : RR x m) (v : Int32) : Bo (F6_term v x) (F7_term v m) := by
  unfold F7_term
  simp only [sx_let, Option.bind_some, Option.map_some]
  have h := h.t0
  generalize sI m 0 0 0 = m at h ⊢
  have hT := h.1.1
  have hU := h.2.1
  have h16 := h.2.2.2.2.2.2.2.2
  unfold F6_term
  simp only [Xin, Min, sx_let, Option.bind_some, Option.map_some, gI_def]
  rcases wi_lit v (a := 0) (b := 2) (by omega) (by omega) 0 2 rfl rfl with ⟨d, -, hd, rfl, e⟩ | ⟨e, -⟩
  · rw [e]
    obtain ⟨⟨u, y⟩, q1, q2, q3⟩ := Xcopy (k := 41) h.1.2 hT (by omega)
    simp only at q2 q3
    have hU2 : ∀ j, j < 6 → y.1 23 j = m.1 3 j := fun j hj => by rw [q3.1 23 (by omega)]; exact hU j hj
    have hX1 : XT y 1 (m.1 2) := h.1.2.cong (fun o h1 h2 => q3.1 o (by omega))
    obtain ⟨a36, -, b36, c36⟩ := hT.2.2.1
    obtain ⟨a37, -, b37, c37⟩ := hT.2.2.2.1
    obtain ⟨a39, -, b39, c39⟩ := hT.2.2.2.2.1
    have e39 : m.1 2 37 + m.1 2 39 = nI (a37 + a39) := by rw [c37, c39, nI_add]
    simp only [show ¬ ((1 : Int32) = 0) from by decide, if_false, q1, sx_let, Option.bind_some, Option.map_some, hX1.2.2.1, hX1.2.2.2.1, e39]
    rcases (show d = 0 ∨ d = 1 ∨ d = 2 by omega) with rfl | rfl | rfl
    · obtain ⟨⟨r, z⟩, w1, w2, w3⟩ := Xbetween (A := a36) (N := a37) (U := m.1 3) (m.1 7) q2 hT hU2 (by omega) (by omega)
      have hm := MpagesBy (m := m) (A := a36) (B := a37) hT (by omega) (by omega)
      rw [h16, show (if a37 < 99 then a37 else 99) = a37 by split <;> omega] at hm
      simp only [show nI 0 = (0 : Int32) from nI_0, if_true, c36, c37, w1, hm, sx_let, Option.bind_some, Option.map_some]
      exact Bo.ret2 w2 ((h.s7 _).keepX ((q3.mono (fun o ho => by omega)).tr (w3.mono (fun o ho => by omega))))
    · obtain ⟨⟨r, z⟩, w1, w2, w3⟩ := Xterm (U := m.1 3) (m.1 7) hX1 q2 hT hU2 e39 (by omega)
      have hm := Mterm (m := m) (A := a37 + a39) (Or.inl rfl) hT (by omega)
      simp only [show ¬ (nI 1 = (0 : Int32)) from by decide, show ¬ (nI 1 = (2 : Int32)) from by decide, if_false, w1, hm]
      exact Bo.ret2 w2 ((h.sterm _ _).keepX ((q3.mono (fun o ho => by omega)).tr (w3.mono (fun o ho => by omega))))
    · obtain ⟨⟨u2, y2⟩, p1, p2, p3⟩ := Xnopay q2 hT
      simp only at p2 p3
      have e39b : bareT (m.1 2) 37 + bareT (m.1 2) 39 = nI (a37 + a39) := by
        rw [bare_ne _ (by omega), bare_ne _ (by omega), e39]
      have hX2 : XT y2 1 (m.1 2) := hX1.cong (fun o h1 h2 => p3.1 o (by omega))
      have hm := Mterm (m := m) (A := a37 + a39) (Or.inr rfl) hT (by omega)
      obtain ⟨⟨r, z⟩, w1, w2, w3⟩ := Xbetween (A := a37 + a39) (N := if a37 + a39 + 7 < 99 then a37 + a39 + 7 else 99) (U := m.1 3) (m.1 7) p2 (bare_ok hT) (fun j hj => by rw [p3.1 23 (by omega)]; exact hU2 j hj) (by omega) (by split <;> omega)
      have e7 : nI (a37 + a39) + (7 : Int32) = nI (a37 + a39 + 7) := nI_add _ 7
      have en : (if (99 : Int32) < nI (a37 + a39 + 7) then (99 : Int32) else nI (a37 + a39 + 7)) = nI (if a37 + a39 + 7 < 99 then a37 + a39 + 7 else 99) := by
        rw [px_l99]
        by_cases q : 99 < a37 + a39 + 7
        · rw [if_pos (nI_lt q (by omega)), if_neg (by omega)]
        · rw [if_neg (nI_nlt (by omega) (by omega))]
          by_cases q2 : a37 + a39 + 7 < 99
          · rw [if_pos q2]
          · rw [if_neg q2, show a37 + a39 + 7 = 99 by omega]
      simp only [show ¬ (nI 2 = (0 : Int32)) from by decide, show (nI 2 = (2 : Int32)) from by decide, if_false, if_true, p1, sx_let, Option.bind_some, Option.map_some, hm, F6_term_57, gI_def, hX2.2.2.2.1, hX2.2.2.2.2.1, e39, e7, en, w1]
      refine Bo.ret2 ?_ ((h.sterm _ _).keepX (((q3.mono (fun o ho => by omega)).tr (p3.mono (fun o ho => by omega))).tr (w3.mono (fun o ho => by omega))))
      exact w2.trans ((bare_al (m.1 2)).span (bare_ok hT) _).symm
  · rw [e]
    exact Bo.ret h
end ENDS
