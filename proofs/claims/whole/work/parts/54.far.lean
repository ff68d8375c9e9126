/-! what a chart that fails leaves -/
theorem okT.cong {T T2 : Nat → Int32} (h : okT T) (e : ∀ j, j < 42 → T2 j = T j) : okT T2 := by
  have e1 : mm_nc T2 = mm_nc T := by unfold mm_nc; rw [e 40 (by omega)]
  have e2 : mm_ns T2 = mm_ns T := by unfold mm_ns; rw [e 41 (by omega)]
  have h1 := h.nc.2
  have h2 := h.ns.2
  unfold okT
  rw [e1, e2, e 40 (by omega), e 41 (by omega), e 36 (by omega), e 37 (by omega), e 38 (by omega), e 39 (by omega)]
  obtain ⟨a1, a2, a3, a4, a5, a6, a7, a8⟩ := h
  refine ⟨a1, a2, a3, a4, a5, a6, fun c hc => ?_, fun k hk => ?_⟩
  · rw [e (3 * c) (by omega), e (3 * c + 1) (by omega), e (3 * c + 2) (by omega)]
    exact a7 c hc
  · rw [e (24 + 3 * k) (by omega), e (24 + 3 * k + 1) (by omega), e (24 + 3 * k + 2) (by omega)]
    exact a8 k hk
section FAR
variable {x m : SQ}
theorem XT.congT {k : Nat} {T T2 : Nat → Int32} (h : XT x k T) (hT : okT T) (e : ∀ j, j < 42 → T2 j = T j) : XT x k T2 := by
  have e1 : mm_nc T2 = mm_nc T := by unfold mm_nc; rw [e 40 (by omega)]
  have e2 : mm_ns T2 = mm_ns T := by unfold mm_ns; rw [e 41 (by omega)]
  have h1 := hT.nc.2
  have h2 := hT.ns.2
  unfold XT
  rw [e1, e2, e 40 (by omega), e 41 (by omega), e 36 (by omega), e 37 (by omega), e 38 (by omega), e 39 (by omega)]
  obtain ⟨x1, x2, x3, x4, x5, x6, x7, x8⟩ := h
  refine ⟨x1, x2, x3, x4, x5, x6, fun c hc => ?_, fun k hk => ?_⟩
  · rw [e (3 * c) (by omega), e (3 * c + 1) (by omega), e (3 * c + 2) (by omega)]
    exact x7 c hc
  · rw [e (24 + 3 * k) (by omega), e (24 + 3 * k + 1) (by omega), e (24 + 3 * k + 2) (by omega)]
    exact x8 k hk
theorem RR.far {n : SQ} (h : RR x m) (e : ∀ o, o ≠ 0 → o ≠ 2 → n.1 o = m.1 o) (e2 : ∀ j, j < 42 → n.1 2 j = m.1 2 j) (e3 : n.1 0 3 = m.1 0 3) (e16 : n.1 0 16 = 0) (e19 : n.1 0 19 = m.1 0 19) (el : n.2 = m.2) : RR x n := by
  obtain ⟨⟨t1, t2⟩, u, ⟨n1, n2, n3⟩, ⟨w, k1, k2, k3, k4⟩, ⟨n', x1, x2, x3, x4⟩, ⟨i1, i2⟩, l, a, bb⟩ := h
  have enc : mm_nc (n.1 2) = mm_nc (m.1 2) := by unfold mm_nc; rw [e2 40 (by omega)]
  have hS : ∀ S, okS (m.1 2) S → okS (n.1 2) S := fun S hS => ⟨hS.1, fun c hc => hS.2 c (by rw [← enc]; exact hc)⟩
  refine ⟨⟨t1.cong e2, t2.congT t1 e2⟩, fun j hj => by rw [e 3 (by omega) (by omega)]; exact u j hj, ⟨?_, ?_, ?_⟩, ⟨w, k1, by rw [e19]; exact k2, k3, ?_⟩, ⟨n', x1, by rw [e3]; exact x2, x3, ?_⟩, ⟨?_, ?_⟩, by rw [e 4 (by omega) (by omega)]; exact l, by rw [el]; exact a, e16⟩
  · rw [enc, e 4 (by omega) (by omega)]; exact n1
  · rw [e 4 (by omega) (by omega)]; exact hS _ n2
  · rw [e 4 (by omega) (by omega)]; exact n3
  · rw [e 9 (by omega) (by omega), e 10 (by omega) (by omega)]; exact k4
  · rw [e 1 (by omega) (by omega)]; exact x4
  · unfold RI1
    rw [enc, e 5 (by omega) (by omega), e 6 (by omega) (by omega)]
    exact ⟨i1.1, i1.2.1, fun hj => ⟨(i1.2.2 hj).1, (i1.2.2 hj).2.1, hS _ (i1.2.2 hj).2.2.1, (i1.2.2 hj).2.2.2⟩⟩
  · unfold RI1
    rw [enc, e 5 (by omega) (by omega), e 6 (by omega) (by omega)]
    exact ⟨i2.1, i2.2.1, fun hj => ⟨(i2.2.2 hj).1, (i2.2.2 hj).2.1, hS _ (i2.2.2 hj).2.2.1, (i2.2.2 hj).2.2.2⟩⟩
/-- the reader's own cells -/
theorem RR.keepR {y : SQ} (h : RR x m) (e : Only (fun o => o = 8 ∨ (10 ≤ o ∧ o ≤ 18)) x y) (e8 : y.1 8 0 = x.1 8 0) : RR y m := by
  obtain ⟨⟨t1, t2⟩, u, ⟨n1, n2⟩, ⟨n, k1, k2, k3, k4⟩, ⟨w, x1, x2, x3, x4⟩, ⟨i1, i2⟩, l, a, b⟩ := h
  have E : ∀ o, ¬ (o = 8 ∨ (10 ≤ o ∧ o ≤ 18)) → y.1 o = x.1 o := fun o ho => e.1 o ho
  refine ⟨⟨t1, t2.cong (fun o h1 h2 => E o (by omega))⟩, fun j hj => by rw [E 23 (by omega)]; exact u j hj, ⟨n1.cong (fun o h1 h2 => E o (by omega)), n2⟩, ⟨n, k1, k2, by rw [E 34 (by omega)]; exact k3, fun i hi => by rw [E 35 (by omega), E 36 (by omega)]; exact k4 i hi⟩, ⟨w, x1, x2, by rw [e8]; exact x3, fun i hi => by rw [E 9 (by omega)]; exact x4 i hi⟩, ⟨?_, ?_⟩, by rw [E 0 (by omega)]; exact l, by rw [e.2]; exact a, b⟩
  · obtain ⟨j1, j2, j3⟩ := i1
    exact ⟨by rw [E 24 (by omega)]; exact j1, j2, fun hj => ⟨by rw [E 24 (by omega)]; exact (j3 hj).1, (j3 hj).2.1.cong (fun o h1 h2 => E o (by omega)), (j3 hj).2.2⟩⟩
  · obtain ⟨j1, j2, j3⟩ := i2
    exact ⟨by rw [E 29 (by omega)]; exact j1, j2, fun hj => ⟨by rw [E 29 (by omega)]; exact (j3 hj).1, (j3 hj).2.1.cong (fun o h1 h2 => E o (by omega)), (j3 hj).2.2⟩⟩
/-! the model after a fault: nothing is taken -/
def FA (f : Nat) (n : SQ) : Prop := n.1 0 8 = nI f ∧ f < 2 ^ 30
theorem fa_well {f : Nat} (h : FA f m) : F7_isWell m = some (0, m) := by
  unfold F7_isWell
  rw [gI_def, h.1, if_pos (nI_pos' (by have := h.2; omega))]
theorem fa_takes {f : Nat} {v : Int32} (h : FA f m) : F7_takes v m = some (0, m) := by
  unfold F7_takes
  simp only [fa_well h, bind_e, if_true]
theorem fa_number {f : Nat} {a b : Int32} (h : FA f m) : F7_number a b m = some (0, m) := by
  have e : ∀ s, F7_number_26 s m = some (0, m) := fun s => by
    unfold F7_number_26
    simp only [fa_takes h, bind_e]
  unfold F7_number F7_number_25
  simp only [Min, bind_e, e, gI_def, ite_self]
theorem fa_word {f : Nat} {v : Int32} (h : FA f m) : F7_takesWord v m = some (0, m) := by
  have b0 : sx_bt (0 : Int32) = true := by decide
  unfold F7_takesWord F7_takesWord_27 F7_takesWord_28 F7_takesWord_37
  simp only [fa_well h, bind_e, if_true, if_pos b0]
/-- the draft at first -/
def mm_dr (T : Nat → Int32) : Nat → Nat → Int32
  | 0 => T
  | c + 1 => upd (mm_dr T c) (42 + c) (if c = 38 then 1 else 0)
theorem dr_at (T : Nat → Int32) : ∀ {n c : Nat}, c < n → mm_dr T n (42 + c) = if c = 38 then 1 else 0
  | 0, _, h => by omega
  | n + 1, c, h => by
    rw [mm_dr]
    by_cases e : c = n
    · rw [e, upd_eq]
    · rw [upd_ne _ _ (by omega), dr_at T (show c < n by omega)]
theorem dr_lt (T : Nat → Int32) : ∀ {n j : Nat}, j < 42 → mm_dr T n j = T j
  | 0, _, _ => rfl
  | n + 1, j, h => by rw [mm_dr, upd_ne _ _ (by omega), dr_lt T h]
theorem Mdrafts : F7_drafts m = some ((), sA m 2 (mm_dr (m.1 2) 42)) := by
  unfold F7_drafts F7_drafts_2
  refine Ev.up (S := fun c => (nI c, sA m 2 (mm_dr (m.1 2) c))) (N := 42) (fun c hc => ?_) ?_ (FU_gt (by omega)) (by rw [nI_0, mm_dr, sA_self])
  · have e : ¬ (42 : Int32) ≤ nI c := by rw [px_l42]; exact nI_ge hc (by omega)
    simp (disch := omega) only [F7_drafts_2b, F7_drafts_27, if_neg e, Int32.add_zero, px_m3, px_a3, px_a24, px_a36, px_a42, px_m27, px_p1, px_p2, px_p3, nI_add, nI_clamp, sx_ixN, if_true, Bool.false_eq_true, if_false, sx_let_e, sI_sA, mm_dr]
    by_cases q : c = 38
    · have q2 : nI c = (38 : Int32) := by rw [q]; decide
      rw [if_pos q2, if_pos q]
    · have q2 : ¬ nI c = (38 : Int32) := by rw [show (38 : Int32) = nI 38 from by decide]; exact fun z => q ((nI_eq (by omega) (by omega)).mp z)
      rw [if_neg q2, if_neg q]
  · have e : (42 : Int32) ≤ nI 42 := by rw [← px_l42]; exact Int32.le_refl _
    simp only [F7_drafts_2b, if_pos e]
    rfl
end FAR
