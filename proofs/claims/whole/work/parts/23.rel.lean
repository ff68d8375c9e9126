/-! THE TWO STATES AGREE -/
def RT (x m : SQ) : Prop := okT (m.1 2) ∧ XT x 1 (m.1 2)
def RU (x m : SQ) : Prop := ∀ j, j < 6 → x.1 23 j = m.1 3 j
def RN (x m : SQ) : Prop := XR x 19 (mm_nc (m.1 2)) (m.1 4) ∧ okS (m.1 2) (m.1 4) ∧ inN (m.1 4 0) 0 99
def RK (x m : SQ) : Prop := ∃ n, n ≤ 30 ∧ m.1 0 19 = nI n ∧ x.1 34 0 = nI n ∧ ∀ i, i < n → x.1 35 i = m.1 9 i ∧ x.1 36 i = m.1 10 i ∧ inN (m.1 9 i) 0 7 ∧ (-99 ≤ (m.1 10 i).toInt ∧ (m.1 10 i).toInt ≤ 99)
def RX (x m : SQ) : Prop := ∃ n, n ≤ 400 ∧ m.1 0 3 = nI n ∧ x.1 8 0 = nI n ∧ ∀ i, i < n → x.1 9 i = m.1 1 i ∧ inN (m.1 1 i) 0 255
def RI1 (x m : SQ) (k j : Nat) : Prop := x.1 k 0 = m.1 6 j ∧ (m.1 6 j = 0 ∨ m.1 6 j = 1) ∧ (m.1 6 j = 1 → x.1 k 1 = m.1 5 (27 * j + 2) ∧ XR x (k + 1) (mm_nc (m.1 2)) (fun i => m.1 5 (27 * j + i)) ∧ okS (m.1 2) (fun i => m.1 5 (27 * j + i)) ∧ inN (m.1 5 (27 * j)) 0 99)
def RI (x m : SQ) : Prop := RI1 x m 24 0 ∧ RI1 x m 29 1
def RR (x m : SQ) : Prop := RT x m ∧ RU x m ∧ RN x m ∧ RK x m ∧ RX x m ∧ RI x m ∧ x.1 0 10 = m.1 4 2 ∧ x.2 0 11 = m.2 0 1 ∧ m.1 0 16 = 0
/-- both answer the same, and agree again -/
def Bo {α : Type} (a b : Option (α × SQ)) : Prop := ∃ (r : α) (y n : SQ), a = some (r, y) ∧ b = some (r, n) ∧ RR y n
theorem Bo.ret {α : Type} {r : α} {y n : SQ} (h : RR y n) : Bo (some (r, y)) (some (r, n)) := ⟨r, y, n, rfl, rfl, h⟩
theorem Bo.ret2 {α : Type} {r r2 : α} {y n : SQ} (e : r = r2) (h : RR y n) : Bo (some (r, y)) (some (r2, n)) := ⟨r, y, n, rfl, by rw [e], h⟩
/-- the class's own scratch cells (jar, guess, dream) don't matter -/
theorem RR.keepX {x y m : SQ} (h : RR x m) (e : Only (fun o => 37 ≤ o) x y) : RR y m := by
  obtain ⟨⟨t1, t2⟩, u, ⟨n1, n2⟩, ⟨n, k1, k2, k3, k4⟩, ⟨w, x1, x2, x3, x4⟩, ⟨i1, i2⟩, l, a, b⟩ := h
  have E : ∀ o, o < 37 → y.1 o = x.1 o := fun o ho => e.1 o (by omega)
  refine ⟨⟨t1, t2.cong (fun o _ h2 => E o (by omega))⟩, fun j hj => by rw [E 23 (by omega)]; exact u j hj, ⟨n1.cong (fun o _ h2 => E o (by omega)), n2⟩, ⟨n, k1, k2, by rw [E 34 (by omega)]; exact k3, fun i hi => by rw [E 35 (by omega), E 36 (by omega)]; exact k4 i hi⟩, ⟨w, x1, x2, by rw [E 8 (by omega)]; exact x3, fun i hi => by rw [E 9 (by omega)]; exact x4 i hi⟩, ⟨?_, ?_⟩, by rw [E 0 (by omega)]; exact l, by rw [e.2]; exact a, b⟩
  · obtain ⟨j1, j2, j3⟩ := i1
    refine ⟨by rw [E 24 (by omega)]; exact j1, j2, fun hj => ?_⟩
    obtain ⟨p1, p2, p3⟩ := j3 hj
    exact ⟨by rw [E 24 (by omega)]; exact p1, p2.cong (fun o _ h2 => E o (by omega)), p3⟩
  · obtain ⟨j1, j2, j3⟩ := i2
    refine ⟨by rw [E 29 (by omega)]; exact j1, j2, fun hj => ?_⟩
    obtain ⟨p1, p2, p3⟩ := j3 hj
    exact ⟨by rw [E 29 (by omega)]; exact p1, p2.cong (fun o _ h2 => E o (by omega)), p3⟩
/-- nor the model's: cells 7, 8, and of the model itself the places besides 3, 16, 19 -/
theorem RR.keepM {x m n : SQ} (h : RR x m) (e : ∀ o, o ≠ 0 → o ≠ 7 → o ≠ 8 → n.1 o = m.1 o) (e3 : n.1 0 3 = m.1 0 3) (e16 : n.1 0 16 = 0) (e19 : n.1 0 19 = m.1 0 19) (e2 : n.2 = m.2) : RR x n := by
  unfold RR RT RU RN RK RX RI RI1 at h ⊢
  rw [e 2 (by omega) (by omega) (by omega), e 3 (by omega) (by omega) (by omega), e 4 (by omega) (by omega) (by omega), e 5 (by omega) (by omega) (by omega), e 6 (by omega) (by omega) (by omega), e 9 (by omega) (by omega) (by omega), e 10 (by omega) (by omega) (by omega), e 1 (by omega) (by omega) (by omega), e3, e19, e2]
  obtain ⟨h1, h2, h3, h4, h5, h6, h7, h8, h9⟩ := h
  exact ⟨h1, h2, h3, h4, h5, h6, h7, h8, e16⟩
theorem RR.t0 {x m : SQ} (h : RR x m) : RR x (sI m 0 0 0) := by
  refine h.keepM (fun o h0 _ _ => sx_row_ne _ _ _ h0) ?_ ?_ ?_ rfl
  · rw [sx_row, upd_ne _ _ (by omega)]
  · rw [sx_row, upd_ne _ _ (by omega)]
    exact h.2.2.2.2.2.2.2.2
  · rw [sx_row, upd_ne _ _ (by omega)]
/-! ranges -/
def wi (v a b : Int32) : Int32 := if v < a then 0 else if b < v then 0 else 1
theorem Xin (v a b : Int32) (x : SQ) : F6_within v a b x = some (wi v a b, x) := by
  unfold F6_within F6_within_14 wi
  simp only [px_ite]
theorem Min (v a b : Int32) (m : SQ) : F7_in v a b m = some (wi v a b, m) := by
  unfold F7_in F7_in_14 wi
  simp only [px_ite]
theorem wi_bt (v a b : Int32) : sx_bt (wi v a b) = true := by
  apply sx_bt_of
  rw [wi]
  split
  · exact Or.inl rfl
  · split
    · exact Or.inl rfl
    · exact Or.inr rfl
theorem wi_lit (v : Int32) {a b : Nat} (hab : a ≤ b) (hb : b < 2 ^ 31 - 1) (A B : Int32) (eA : A = nI a) (eB : B = nI b) : (∃ j, a ≤ j ∧ j ≤ b ∧ v = nI j ∧ wi v A B = 1) ∨ (wi v A B = 0 ∧ ∀ j, a ≤ j → j ≤ b → ¬ v = nI j) := by
  subst eA
  subst eB
  · rcases pk_ix v (n := b + 1) (by omega) with q | q | ⟨j, q, rfl⟩
    · right
      refine ⟨?_, fun j h1 h2 e => ?_⟩
      · rw [wi, if_pos]
        have a1 := Int32.lt_iff_toInt_lt.mp q
        rw [Int32.toInt_zero] at a1
        rw [Int32.lt_iff_toInt_lt, nI_toInt (by omega)]
        omega
      · rw [e] at q
        exact nI_pos (by omega) q
    · right
      have a1 := Int32.le_iff_toInt_le.mp q
      rw [nI_toInt (by omega)] at a1
      refine ⟨?_, fun j h1 h2 e => ?_⟩
      · rw [wi]
        split
        · rfl
        · rw [if_pos]
          rw [Int32.lt_iff_toInt_lt, nI_toInt (by omega)]
          omega
      · rw [e, nI_toInt (by omega)] at a1
        omega
    · by_cases h : a ≤ j
      · left
        refine ⟨j, h, by omega, rfl, ?_⟩
        rw [wi, if_neg (nI_nlt h (by omega)), if_neg (nI_nlt (by omega) (by omega))]
      · right
        refine ⟨by rw [wi, if_pos (nI_lt (by omega) (by omega))], fun i h1 h2 e => ?_⟩
        have := (nI_eq (by omega) (by omega)).mp e
        omega
theorem wi_N (v : Int32) {n : Nat} (hn : n < 2 ^ 30) (N : Int32) (eN : N = nI n) : (∃ j, j < n ∧ v = nI j ∧ wi v 0 (N - 1) = 1) ∨ (wi v 0 (N - 1) = 0 ∧ ∀ j, j < n → ¬ v = nI j) := by
  subst eN
  rcases Nat.eq_zero_or_pos n with rfl | h
  · right
    refine ⟨?_, fun j h => by omega⟩
    rw [wi]
    split
    · rfl
    · rename_i h
      rw [if_pos]
      have a1 : ¬ v.toInt < (0 : Int32).toInt := fun z => h (Int32.lt_iff_toInt_lt.mpr z)
      rw [Int32.toInt_zero] at a1
      rw [Int32.lt_iff_toInt_lt, show (nI 0 - 1 : Int32).toInt = -1 from by decide]
      omega
  · obtain ⟨n, rfl⟩ : ∃ k, n = k + 1 := ⟨n - 1, by omega⟩
    rw [nI_pred]
    rcases wi_lit v (a := 0) (b := n) (by omega) (by omega) 0 (nI n) nI_0.symm rfl with ⟨j, -, h2, h3, h4⟩ | ⟨h1, h2⟩
    · exact Or.inl ⟨j, by omega, h3, h4⟩
    · exact Or.inr ⟨h1, fun j hj => h2 j (Nat.zero_le _) (by omega)⟩
theorem px_s3 {a : Nat} (h : 3 ≤ a) : nI a - (3 : Int32) = nI (a - 3) := pk_sub h
section CALLS1
variable {x m : SQ}
theorem XisChild (v : Int32) : F6_isChild v x = some (wi v 0 (x.1 1 0 - 1), x) := by
  unfold F6_isChild
  simp only [Xin, sx_let, Option.bind_some, Option.map_some, wi_bt, if_true, gI_def]
theorem XisSort (v : Int32) : F6_isSort v x = some (wi v 0 (x.1 1 1 - 1), x) := by
  unfold F6_isSort
  simp only [Xin, sx_let, Option.bind_some, Option.map_some, wi_bt, if_true, gI_def]
theorem XisDay (v : Int32) : F6_isDay v x = some (wi v 0 99, x) := by
  unfold F6_isDay
  simp only [Xin, sx_let, Option.bind_some, Option.map_some, wi_bt, if_true]
theorem MisChild (v : Int32) : F7_isChild v m = some (wi v 0 (m.1 2 40 - 1), m) := by
  unfold F7_isChild
  simp only [Min, sx_let, Option.bind_some, Option.map_some, wi_bt, if_true, gI_def]
theorem MisSort (v : Int32) : F7_isSort v m = some (wi v 0 (m.1 2 41 - 1), m) := by
  unfold F7_isSort
  simp only [Min, sx_let, Option.bind_some, Option.map_some, wi_bt, if_true, gI_def]
theorem MisDay (v : Int32) : F7_isDay v m = some (wi v 0 99, m) := by
  unfold F7_isDay
  simp only [Min, sx_let, Option.bind_some, Option.map_some, wi_bt, if_true]
theorem child_bo (h : RR x m) (c w : Int32) : Bo (F6_child c w x) (F7_child c w m) := by
  unfold F7_child F7_child_22
  simp only [sx_let, Option.bind_some, Option.map_some]
  have h := h.t0
  generalize sI m 0 0 0 = m at h ⊢
  have hT := h.1.1
  have hX := h.1.2
  obtain ⟨e40, h40⟩ := hT.nc
  unfold F6_child
  simp only [XisChild, MisChild, Min, sx_let, Option.bind_some, Option.map_some, hX.1]
  rcases wi_N c (n := mm_nc (m.1 2)) (by omega) _ e40 with ⟨j, hj, rfl, e⟩ | ⟨e, -⟩
  · rw [e]
    obtain ⟨t1, t2, t3⟩ := hX.2.2.2.2.2.2.1 j hj
    obtain ⟨s1, s2, s3⟩ := h.2.2.1.1.2.2 j hj
    simp (disch := omega) only [Int32.add_zero, px_m3, px_a3, px_a24, px_a36, px_a42, px_m27, px_p1, px_p2, px_p3, nI_add, nI_clamp, sx_ixN, if_true, Bool.false_eq_true, if_false, gI_def, t1, t2, t3, s1, s2, s3, show ¬ ((1 : Int32) = 0) from by decide]
    rcases wi_lit w (a := 0) (b := 5) (by omega) (by omega) 0 5 rfl rfl with ⟨i, -, hi, rfl, e2⟩ | ⟨e2, hne⟩
    · rw [e2]
      simp only [show ¬ ((1 : Int32) = 0) from by decide, if_false]
      rcases (show i = 0 ∨ i = 1 ∨ i = 2 ∨ i = 3 ∨ i = 4 ∨ i = 5 by omega) with rfl | rfl | rfl | rfl | rfl | rfl
      all_goals (simp (decide := true) (disch := omega) only [Int32.add_zero, px_m3, px_a3, px_a24, px_a36, px_a42, px_m27, px_p1, px_p2, px_p3, nI_add, nI_clamp, sx_ixN, if_true, Bool.false_eq_true, if_false, px_s3, nI_0]; first | exact Bo.ret h | exact Bo.ret2 (congrArg _ (by omega)) h)
    · rw [e2]
      have n0 : ¬ w = 0 := hne 0 (by omega) (by omega)
      have n1 : ¬ w = 1 := hne 1 (by omega) (by omega)
      have n2 : ¬ w = 2 := hne 2 (by omega) (by omega)
      have n3 : ¬ w = 3 := hne 3 (by omega) (by omega)
      have n4 : ¬ w = 4 := hne 4 (by omega) (by omega)
      have n5 : ¬ w = 5 := hne 5 (by omega) (by omega)
      rw [if_neg n0, if_neg n1, if_neg n2, if_neg n3, if_neg n4, if_neg n5, if_pos rfl]
      exact Bo.ret h
  · rw [e]
    exact Bo.ret h
theorem book_bo (h : RR x m) (c w : Int32) : Bo (F6_book c w x) (F7_book c w m) := by
  unfold F7_book F7_book_38
  simp only [sx_let, Option.bind_some, Option.map_some]
  have h := h.t0
  generalize sI m 0 0 0 = m at h ⊢
  have hT := h.1.1
  have hX := h.1.2
  obtain ⟨e41, h41⟩ := hT.ns
  unfold F6_book
  simp only [XisSort, MisSort, Min, sx_let, Option.bind_some, Option.map_some, hX.2.1]
  rcases wi_N c (n := mm_ns (m.1 2)) (by omega) _ e41 with ⟨j, hj, rfl, e⟩ | ⟨e, -⟩
  · rw [e]
    obtain ⟨t1, t2, t3⟩ := hX.2.2.2.2.2.2.2 j hj
    simp (disch := omega) only [Int32.add_zero, px_m3, px_a3, px_a24, px_a36, px_a42, px_m27, px_p1, px_p2, px_p3, nI_add, nI_clamp, sx_ixN, if_true, Bool.false_eq_true, if_false, gI_def, t1, t2, t3, show ¬ ((1 : Int32) = 0) from by decide]
    rcases wi_lit w (a := 0) (b := 2) (by omega) (by omega) 0 2 rfl rfl with ⟨i, -, hi, rfl, e2⟩ | ⟨e2, hne⟩
    · rw [e2]
      simp only [show ¬ ((1 : Int32) = 0) from by decide, if_false]
      rcases (show i = 0 ∨ i = 1 ∨ i = 2 by omega) with rfl | rfl | rfl
      all_goals (simp (decide := true) (disch := omega) only [Int32.add_zero, px_m3, px_a3, px_a24, px_a36, px_a42, px_m27, px_p1, px_p2, px_p3, nI_add, nI_clamp, sx_ixN, if_true, Bool.false_eq_true, if_false, px_s3, nI_0]; first | exact Bo.ret h | exact Bo.ret2 (congrArg _ (by omega)) h)
    · rw [e2]
      have n0 : ¬ w = 0 := hne 0 (by omega) (by omega)
      have n1 : ¬ w = 1 := hne 1 (by omega) (by omega)
      have n2 : ¬ w = 2 := hne 2 (by omega) (by omega)
      rw [if_neg n0, if_neg n1, if_neg n2, if_pos rfl]
      exact Bo.ret h
  · rw [e]
    exact Bo.ret h
theorem plan_bo (h : RR x m) (w : Int32) : Bo (F6_plan w x) (F7_plan w m) := by
  unfold F7_plan
  simp only [sx_let, Option.bind_some, Option.map_some]
  have h := h.t0
  generalize sI m 0 0 0 = m at h ⊢
  have hT := h.1.1
  have hX := h.1.2
  obtain ⟨x1, x2, x3, x4, x5, x6, -⟩ := hX
  unfold F6_plan
  simp only [Min, sx_let, Option.bind_some, Option.map_some, gI_def, x3, x4, x5, x6]
  rcases wi_lit w (a := 0) (b := 3) (by omega) (by omega) 0 3 rfl rfl with ⟨i, -, hi, rfl, e2⟩ | ⟨e2, hne⟩
  · rw [e2]
    simp only [show ¬ ((1 : Int32) = 0) from by decide, if_false]
    rcases (show i = 0 ∨ i = 1 ∨ i = 2 ∨ i = 3 by omega) with rfl | rfl | rfl | rfl
    · simp (decide := true) (disch := omega) only [Int32.add_zero, px_m3, px_a3, px_a24, px_a36, px_a42, px_m27, px_p1, px_p2, px_p3, nI_add, nI_clamp, sx_ixN, if_true, Bool.false_eq_true, if_false, nI_0]
      exact Bo.ret h
    · simp (decide := true) (disch := omega) only [Int32.add_zero, px_m3, px_a3, px_a24, px_a36, px_a42, px_m27, px_p1, px_p2, px_p3, nI_add, nI_clamp, sx_ixN, if_true, Bool.false_eq_true, if_false, nI_0]
      exact Bo.ret h
    · simp (decide := true) (disch := omega) only [Int32.add_zero, px_m3, px_a3, px_a24, px_a36, px_a42, px_m27, px_p1, px_p2, px_p3, nI_add, nI_clamp, sx_ixN, if_true, Bool.false_eq_true, if_false, nI_0]
      rcases hT.2.2.2.2.2.1 with e | e
      · simp (decide := true) only [e, if_true]
        exact Bo.ret h
      · simp (decide := true) only [e, if_true, if_false]
        exact Bo.ret h
    · simp (decide := true) (disch := omega) only [Int32.add_zero, px_m3, px_a3, px_a24, px_a36, px_a42, px_m27, px_p1, px_p2, px_p3, nI_add, nI_clamp, sx_ixN, if_true, Bool.false_eq_true, if_false, nI_0]
      exact Bo.ret h
  · rw [e2]
    have n0 : ¬ w = 0 := hne 0 (by omega) (by omega)
    have n1 : ¬ w = 1 := hne 1 (by omega) (by omega)
    have n2 : ¬ w = 2 := hne 2 (by omega) (by omega)
    have n3 : ¬ w = 3 := hne 3 (by omega) (by omega)
    rw [if_neg n0, if_neg n1, if_neg n2, if_neg n3, if_pos rfl]
    exact Bo.ret h
theorem count_bo (h : RR x m) (w : Int32) : Bo (F6_count w x) (F7_count w m) := by
  unfold F7_count
  simp only [sx_let, Option.bind_some, Option.map_some]
  have h := h.t0
  generalize sI m 0 0 0 = m at h ⊢
  obtain ⟨x1, x2, -⟩ := h.1.2
  obtain ⟨n, k1, k2, k3, -⟩ := h.2.2.2.1
  obtain ⟨a, a1, a2, a3, -⟩ := h.2.2.2.2.1
  unfold F6_count
  simp only [gI_def, x1, x2, k2, k3, a2, a3]
  split
  · exact Bo.ret h
  · split
    · exact Bo.ret h
    · split
      · exact Bo.ret h
      · split
        · exact Bo.ret h
        · exact Bo.ret h
theorem trace_bo (h : RR x m) : Bo (F6_trace x) (F7_trace m) := by
  unfold F7_trace F6_trace
  simp only [sx_let, Option.bind_some, Option.map_some]
  have h := h.t0
  exact Bo.ret2 h.2.2.2.2.2.2.2.1 h
theorem given_bo (h : RR x m) (c w : Int32) : Bo (F6_given c w x) (F7_given c w m) := by
  unfold F7_given F7_given_29
  simp only [sx_let, Option.bind_some, Option.map_some]
  have h := h.t0
  generalize sI m 0 0 0 = m at h ⊢
  have hT := h.1.1
  have hX := h.1.2
  have h16 := h.2.2.2.2.2.2.2.2
  obtain ⟨e41, h41⟩ := hT.ns
  unfold F6_given F6_given_27
  simp only [XisSort, MisSort, XisDay, MisDay, sx_let, Option.bind_some, Option.map_some, hX.2.1]
  rcases wi_N c (n := mm_ns (m.1 2)) (by omega) _ e41 with ⟨j, hj, rfl, e⟩ | ⟨e, -⟩
  · rw [e]
    have hm := Mgiven (m := m) (k := j) (day := w) (by omega) hT.2.2.2.2.1
    rw [h16] at hm
    simp only [Xgiven hX hT hj, hm, sx_let, Option.bind_some, Option.map_some, show ¬ ((1 : Int32) = 0) from by decide, if_false]
    split
    · exact Bo.ret h
    · exact Bo.ret h
  · rw [e]
    exact Bo.ret h
theorem want_bo (h : RR x m) (c s w : Int32) : Bo (F6_want c s w x) (F7_want c s w m) := by
  unfold F7_want F7_want_30
  simp only [sx_let, Option.bind_some, Option.map_some]
  have h := h.t0
  generalize sI m 0 0 0 = m at h ⊢
  have hT := h.1.1
  have hX := h.1.2
  have hR := h.2.2.1.1
  have h16 := h.2.2.2.2.2.2.2.2
  obtain ⟨e40, h40⟩ := hT.nc
  obtain ⟨e41, h41⟩ := hT.ns
  unfold F6_want F6_want_16
  simp only [XisChild, MisChild, XisSort, MisSort, Min, sx_let, Option.bind_some, Option.map_some, hX.1, hX.2.1]
  rcases wi_N c (n := mm_nc (m.1 2)) (by omega) _ e40 with ⟨j, hj, rfl, e⟩ | ⟨e, -⟩
  · rw [e]
    simp only [show ¬ ((1 : Int32) = 0) from by decide, if_false]
    rcases wi_N s (n := mm_ns (m.1 2)) (by omega) _ e41 with ⟨i, hi, rfl, e2⟩ | ⟨e2, -⟩
    · rw [e2]
      have hh := (hT.2.2.2.2.2.2.2 i hi).1.ne0 (by omega) (by omega)
      have m1 := Mpages (m := m) (c := j) (k := i) (by omega) (by omega) hh
      have m2 := Mjoys (m := m) (r := 4) (c := j) (k := i) (by omega) (by omega)
      have m3 := Mstars (m := m) (r := 4) (c := j) (k := i) (day := m.1 4 0) (by omega) (by omega) hh hT.2.2.2.2.1
      have m4 := Mwant (m := m) (r := 4) (c := j) (k := i) (day := m.1 4 0) (by omega) (by omega) hh hT.2.2.2.2.1
      rw [h16] at m3 m4
      simp only [Xpages hX hT hj hi, Xjoys hX hR hT hj hi, Xstars hX hR hT hj hi, Xwant hX hR hT hj hi, m1, m2, m3, m4, gI_def, sx_let, Option.bind_some, Option.map_some, show ¬ ((1 : Int32) = 0) from by decide, if_false]
      rcases wi_lit w (a := 0) (b := 3) (by omega) (by omega) 0 3 rfl rfl with ⟨i, -, hi, rfl, e2⟩ | ⟨e2, hne⟩
      · rw [e2]
        simp only [show ¬ ((1 : Int32) = 0) from by decide, if_false]
        rcases (show i = 0 ∨ i = 1 ∨ i = 2 ∨ i = 3 by omega) with rfl | rfl | rfl | rfl
        all_goals (simp (decide := true) (disch := omega) only [Int32.add_zero, px_m3, px_a3, px_a24, px_a36, px_a42, px_m27, px_p1, px_p2, px_p3, nI_add, nI_clamp, sx_ixN, if_true, Bool.false_eq_true, if_false, nI_0]; exact Bo.ret h)
      · rw [e2]
        have n0 : ¬ w = 0 := hne 0 (by omega) (by omega)
        have n1 : ¬ w = 1 := hne 1 (by omega) (by omega)
        have n2 : ¬ w = 2 := hne 2 (by omega) (by omega)
        have n3 : ¬ w = 3 := hne 3 (by omega) (by omega)
        rw [if_neg n0, if_neg n1, if_neg n2, if_neg n3, if_pos rfl]
        exact Bo.ret h
    · rw [e2]
      exact Bo.ret h
  · rw [e]
    exact Bo.ret h
theorem choice_bo (h : RR x m) (c : Int32) : Bo (F6_choice c x) (F7_choice c m) := by
  unfold F7_choice
  simp only [sx_let, Option.bind_some, Option.map_some]
  have h := h.t0
  generalize sI m 0 0 0 = m at h ⊢
  have hT := h.1.1
  have hX := h.1.2
  have hR := h.2.2.1.1
  have hU := h.2.1
  have h16 := h.2.2.2.2.2.2.2.2
  obtain ⟨e40, h40⟩ := hT.nc
  unfold F6_choice
  simp only [XisChild, MisChild, sx_let, Option.bind_some, Option.map_some, hX.1]
  rcases wi_N c (n := mm_nc (m.1 2)) (by omega) _ e40 with ⟨j, hj, rfl, e⟩ | ⟨e, -⟩
  · rw [e]
    have m1 := Mchoice (m := m) (r := 4) (c := j) (day := m.1 4 0) (by omega) hT
    rw [h16] at m1
    simp only [show ¬ ((1 : Int32) = 0) from by decide, if_false, Xchoice hX hR hT hj, m1, gI_def, hU 0 (by omega), sx_let, Option.bind_some, Option.map_some]
    exact Bo.ret h
  · rw [e]
    exact Bo.ret h
/-! writes -/
theorem RR.tune (h : RR x m) {j : Nat} (v : Int32) : RR (sI x 23 j v) (sI m 3 j v) := by
  obtain ⟨⟨t1, t2⟩, u, ⟨n1, n2⟩, ⟨n, k1, k2, k3, k4⟩, ⟨w, x1, x2, x3, x4⟩, ⟨i1, i2⟩, l, a, b⟩ := h
  have E : ∀ o, o ≠ 23 → (sI x 23 j v).1 o = x.1 o := fun o ho => sx_row_ne _ _ _ ho
  have F : ∀ o, o ≠ 3 → (sI m 3 j v).1 o = m.1 o := fun o ho => sx_row_ne _ _ _ ho
  unfold RR RT RU RN RK RX RI RI1
  rw [F 2 (by omega), F 4 (by omega), F 5 (by omega), F 6 (by omega), F 9 (by omega), F 10 (by omega), F 1 (by omega), F 0 (by omega), sI_two, sI_two]
  refine ⟨⟨t1, t2.cong (fun o _ h2 => E o (by omega))⟩, fun i hi => ?_, ⟨n1.cong (fun o _ h2 => E o (by omega)), n2⟩, ⟨n, k1, k2, by rw [E 34 (by omega)]; exact k3, fun i hi => by rw [E 35 (by omega), E 36 (by omega)]; exact k4 i hi⟩, ⟨w, x1, x2, by rw [E 8 (by omega)]; exact x3, fun i hi => by rw [E 9 (by omega)]; exact x4 i hi⟩, ⟨?_, ?_⟩, by rw [E 0 (by omega)]; exact l, a, b⟩
  · rw [sx_row, sx_row]
    simp only [upd, u i hi]
  · rw [E 24 (by omega)]
    exact ⟨i1.1, i1.2.1, fun hj => ⟨(i1.2.2 hj).1, (i1.2.2 hj).2.1.cong (fun o _ h2 => E o (by omega)), (i1.2.2 hj).2.2⟩⟩
  · rw [E 29 (by omega)]
    exact ⟨i2.1, i2.2.1, fun hj => ⟨(i2.2.2 hj).1, (i2.2.2 hj).2.1.cong (fun o _ h2 => E o (by omega)), (i2.2.2 hj).2.2⟩⟩
theorem tune_bo (h : RR x m) (c v : Int32) : Bo (F6_tune c v x) (F7_tune c v m) := by
  unfold F7_tune F7_tune_24 F7_tune_31 F7_tune_50
  simp only [sx_let, Option.bind_some, Option.map_some]
  have h := h.t0
  generalize sI m 0 0 0 = m at h ⊢
  unfold F6_tune F6_tune_22
  simp only [Xin, Min, sx_let, Option.bind_some, Option.map_some, gI_def]
  rcases wi_lit c (a := 0) (b := 5) (by omega) (by omega) 0 5 rfl rfl with ⟨i, -, hi, rfl, e2⟩ | ⟨e2, hne⟩
  · have fin : Bo (if (1 : Int32) = 0 then some (-1, x) else if sx_ix (nI i) 6 = true then (if wi v 0 (tMost i) = 0 then some (-1, x) else if sx_ix (nI i) 6 = true then (if sx_ix (nI i) 6 = true then some (x.1 23 i, sI x 23 i v) else none) else none) else none) (if (1 : Int32) = 0 then some (-1, m) else if wi v 0 (tMost i) = 0 then some (-1, m) else if sx_ix (nI i) 6 = true then (if sx_ix (nI i) 6 = true then some (m.1 3 i, sI m 3 i v) else none) else none) := by
      simp (disch := omega) only [Int32.add_zero, px_m3, px_a3, px_a24, px_a36, px_a42, px_m27, px_p1, px_p2, px_p3, nI_add, nI_clamp, sx_ixN, if_true, Bool.false_eq_true, if_false, show ¬ ((1 : Int32) = 0) from by decide, h.2.1 i (by omega)]
      split
      · exact Bo.ret h
      · exact Bo.ret (h.tune v)
    rw [e2]
    rcases (show i = 0 ∨ i = 1 ∨ i = 2 ∨ i = 3 ∨ i = 4 ∨ i = 5 by omega) with rfl | rfl | rfl | rfl | rfl | rfl
    all_goals (simp (decide := true) (disch := omega) only [nI_0, nI_clamp, if_true, if_false]; simp (decide := true) (disch := omega) only [nI_clamp] at fin; exact fin)
  · rw [e2]
    simp only [if_true]
    split
    · exact Bo.ret h
    · split
      · exact Bo.ret h
      · split
        · exact Bo.ret h
        · exact Bo.ret h
theorem RR.lot (h : RR x m) (v : Int32) : RR (sI x 0 10 v) (sI m 4 2 v) := by
  obtain ⟨⟨t1, t2⟩, u, ⟨n1, n2, n3⟩, ⟨n, k1, k2, k3, k4⟩, ⟨w, x1, x2, x3, x4⟩, ⟨i1, i2⟩, l, a, b⟩ := h
  have E : ∀ o, o ≠ 0 → (sI x 0 10 v).1 o = x.1 o := fun o ho => sx_row_ne _ _ _ ho
  have F : ∀ o, o ≠ 4 → (sI m 4 2 v).1 o = m.1 o := fun o ho => sx_row_ne _ _ _ ho
  unfold RR RT RU RN RK RX RI RI1
  rw [F 2 (by omega), F 3 (by omega), F 5 (by omega), F 6 (by omega), F 9 (by omega), F 10 (by omega), F 1 (by omega), F 0 (by omega), sI_two, sI_two]
  refine ⟨⟨t1, t2.cong (fun o _ h2 => E o (by omega))⟩, fun i hi => by rw [E 23 (by omega)]; exact u i hi, ⟨⟨?_, ?_, fun c hc => ?_⟩, ⟨?_, fun c hc => ?_⟩, ?_⟩, ⟨n, k1, k2, by rw [E 34 (by omega)]; exact k3, fun i hi => by rw [E 35 (by omega), E 36 (by omega)]; exact k4 i hi⟩, ⟨w, x1, x2, by rw [E 8 (by omega)]; exact x3, fun i hi => by rw [E 9 (by omega)]; exact x4 i hi⟩, ⟨?_, ?_⟩, ?_, a, b⟩
  · rw [E 19 (by omega), sx_row, upd_ne _ _ (by omega)]; exact n1.1
  · rw [E 19 (by omega), sx_row, upd_ne _ _ (by omega)]; exact n1.2.1
  · rw [E 20 (by omega), E 21 (by omega), E 22 (by omega), sx_row, upd_ne _ _ (by omega), upd_ne _ _ (by omega), upd_ne _ _ (by omega)]; exact n1.2.2 c hc
  · rw [sx_row, upd_ne _ _ (by omega)]; exact n2.1
  · rw [sx_row, upd_ne _ _ (by omega)]; exact n2.2 c hc
  · rw [sx_row, upd_ne _ _ (by omega)]; exact n3
  · rw [E 24 (by omega)]
    exact ⟨i1.1, i1.2.1, fun hj => ⟨(i1.2.2 hj).1, (i1.2.2 hj).2.1.cong (fun o _ h2 => E o (by omega)), (i1.2.2 hj).2.2⟩⟩
  · rw [E 29 (by omega)]
    exact ⟨i2.1, i2.2.1, fun hj => ⟨(i2.2.2 hj).1, (i2.2.2 hj).2.1.cong (fun o _ h2 => E o (by omega)), (i2.2.2 hj).2.2⟩⟩
  · rw [sx_row, sx_row, upd_eq, upd_eq]
theorem lot_bo (h : RR x m) (v : Int32) : Bo (F6_lot v x) (F7_lot v m) := by
  unfold F7_lot F6_lot
  simp only [sx_let, Option.bind_some, Option.map_some]
  have h := h.t0
  generalize sI m 0 0 0 = m at h ⊢
  exact Bo.ret2 h.2.2.2.2.2.2.1 (h.lot v)
theorem RR.txt0 (h : RR x m) : RR (sI x 8 0 0) (sI m 0 3 0) := by
  obtain ⟨⟨t1, t2⟩, u, ⟨n1, n2⟩, ⟨n, k1, k2, k3, k4⟩, -, ⟨i1, i2⟩, l, a, b⟩ := h
  have E : ∀ o, o ≠ 8 → (sI x 8 0 0).1 o = x.1 o := fun o ho => sx_row_ne _ _ _ ho
  have F : ∀ o, o ≠ 0 → (sI m 0 3 0).1 o = m.1 o := fun o ho => sx_row_ne _ _ _ ho
  unfold RR RT RU RN RK RX RI RI1
  rw [F 2 (by omega), F 3 (by omega), F 4 (by omega), F 5 (by omega), F 6 (by omega), F 9 (by omega), F 10 (by omega), F 1 (by omega), sI_two, sI_two]
  refine ⟨⟨t1, t2.cong (fun o h1 h2 => E o (by omega))⟩, fun i hi => by rw [E 23 (by omega)]; exact u i hi, ⟨n1.cong (fun o h1 h2 => E o (by omega)), n2⟩, ⟨n, k1, by rw [sx_row, upd_ne _ _ (by omega)]; exact k2, by rw [E 34 (by omega)]; exact k3, fun i hi => by rw [E 35 (by omega), E 36 (by omega)]; exact k4 i hi⟩, ⟨0, by omega, by rw [sx_row, upd_eq, nI_0], by rw [sx_row, upd_eq, nI_0], fun i hi => by omega⟩, ⟨?_, ?_⟩, by rw [E 0 (by omega)]; exact l, a, by rw [sx_row, upd_ne _ _ (by omega)]; exact b⟩
  · rw [E 24 (by omega)]
    exact ⟨i1.1, i1.2.1, fun hj => ⟨(i1.2.2 hj).1, (i1.2.2 hj).2.1.cong (fun o h1 h2 => E o (by omega)), (i1.2.2 hj).2.2⟩⟩
  · rw [E 29 (by omega)]
    exact ⟨i2.1, i2.2.1, fun hj => ⟨(i2.2.2 hj).1, (i2.2.2 hj).2.1.cong (fun o h1 h2 => E o (by omega)), (i2.2.2 hj).2.2⟩⟩
theorem clear_bo (h : RR x m) : Bo (F6_clear x) (F7_clear m) := by
  unfold F7_clear F6_clear
  simp only [sx_let, Option.bind_some, Option.map_some]
  have h := h.t0
  generalize sI m 0 0 0 = m at h ⊢
  obtain ⟨a, a1, a2, a3, -⟩ := h.2.2.2.2.1
  exact Bo.ret2 (by rw [gI_def, gI_def, a2, a3]) h.txt0
end CALLS1
