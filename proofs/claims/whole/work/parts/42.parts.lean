/-! joined, ahead, parts -/
theorem cmp_le (x y : Int64) : lg_cmp x y ≤ 0 ↔ x.toInt ≤ y.toInt := by
  unfold lg_cmp
  by_cases h : x > y
  · have h2 := Int64.lt_iff_toInt_lt.mp h
    rw [if_pos h]
    exact ⟨fun z => absurd z (by decide), fun z => by omega⟩
  · have h2 : ¬ y.toInt < x.toInt := fun z => h (Int64.lt_iff_toInt_lt.mpr z)
    rw [if_neg h]
    by_cases e : x = y
    · rw [if_pos e]
      exact ⟨fun _ => by omega, fun _ => by decide⟩
    · rw [if_neg e]
      exact ⟨fun _ => by omega, fun _ => by decide⟩
theorem cmp_ge (x y : Int64) : 0 ≤ lg_cmp x y ↔ y.toInt ≤ x.toInt := by
  unfold lg_cmp
  by_cases h : x > y
  · have h2 := Int64.lt_iff_toInt_lt.mp h
    rw [if_pos h]
    exact ⟨fun z => by omega, fun z => by decide⟩
  · have h2 : ¬ y.toInt < x.toInt := fun z => h (Int64.lt_iff_toInt_lt.mpr z)
    rw [if_neg h]
    by_cases e : x = y
    · rw [if_pos e]
      exact ⟨fun _ => by rw [e]; omega, fun _ => by decide⟩
    · rw [if_neg e]
      have : x.toInt ≠ y.toInt := fun z => e (Int64.toInt_inj.mp z)
      exact ⟨fun z => absurd z (by decide), fun _ => by omega⟩
theorem pb {a b : Int} {A B : Nat} (ha : a.natAbs ≤ A) (hb : b.natAbs ≤ B) : (a * b).natAbs ≤ A * B := by
  rw [Int.natAbs_mul]
  exact Nat.mul_le_mul ha hb
theorem l64_mul {a b : Int32} (h : (a.toInt * b.toInt).natAbs < 2147483648) : a.toInt64 * b.toInt64 = (a * b).toInt64 := by
  apply Int64.toInt_inj.mp
  rw [Int64.toInt_mul, Int32.toInt_toInt64, Int32.toInt_toInt64, Int32.toInt_toInt64, ti_mul (by omega) (by omega)]
  exact Int.bmod_eq_of_le_mul_two (by omega) (by omega)
theorem l64_sub {a b : Int32} (h : (a.toInt - b.toInt).natAbs < 2147483648) : a.toInt64 - b.toInt64 = (a - b).toInt64 := by
  apply Int64.toInt_inj.mp
  rw [Int64.toInt_sub, Int32.toInt_toInt64, Int32.toInt_toInt64, Int32.toInt_toInt64, ti_sub (by omega) (by omega)]
  exact Int.bmod_eq_of_le_mul_two (by omega) (by omega)
theorem l64_0 : (0 : Int64) = (0 : Int32).toInt64 := by decide
theorem le_toInt (a b : Int32) : (a ≤ b) = (a.toInt ≤ b.toInt) := propext Int32.le_iff_toInt_le
theorem far_num {S1 S2 d w : Int32} {a b : Nat} (h1 : S1.toInt.natAbs ≤ 2970) (h2 : S2.toInt.natAbs ≤ 2970) (ha : 1 ≤ a ∧ a ≤ 30) (hb : 1 ≤ b ∧ b ≤ 30) (hd : d.toInt.natAbs ≤ 178200) (hw : w.toInt.natAbs ≤ 900) :
    S1.toInt64 * (nI b).toInt64 - S2.toInt64 * (nI a).toInt64 = (S1 * nI b - S2 * nI a).toInt64 ∧
    ((0 ≤ lg_cmp (S1 * nI b - S2 * nI a).toInt64 0) = (0 ≤ S1 * nI b - S2 * nI a)) ∧
    ((0 : Int64) - (S1 * nI b - S2 * nI a).toInt64 = (0 - (S1 * nI b - S2 * nI a)).toInt64) ∧
    (∀ E : Int32, (E = S1 * nI b - S2 * nI a ∨ E = 0 - (S1 * nI b - S2 * nI a)) → E.toInt.natAbs ≤ 178200 ∧ (lg_cmp (E.toInt64 * w.toInt64) (d.toInt64 * (nI a).toInt64 * (nI b).toInt64) ≤ 0) = (E * w ≤ d * (nI a * nI b))) ∧
    (nI a).toInt64 * (nI b).toInt64 = (nI a * nI b).toInt64 ∧ (nI a * nI b).toInt.natAbs ≤ 900 := by
  have ta : (nI a).toInt = (a : Int) := nI_toInt (by omega)
  have tb : (nI b).toInt = (b : Int) := nI_toInt (by omega)
  have p1 := pb (a := S1.toInt) (b := (nI b).toInt) (A := 2970) (B := 30) h1 (by omega)
  have p2 := pb (a := S2.toInt) (b := (nI a).toInt) (A := 2970) (B := 30) h2 (by omega)
  have p3 := pb (a := (nI a).toInt) (b := (nI b).toInt) (A := 30) (B := 30) (by omega) (by omega)
  have p4 := pb (a := d.toInt) (b := (nI a).toInt) (A := 178200) (B := 30) hd (by omega)
  have e1 := ti_mul (a := S1) (b := nI b) (by omega) (by omega)
  have e2 := ti_mul (a := S2) (b := nI a) (by omega) (by omega)
  have e3 := ti_mul (a := nI a) (b := nI b) (by omega) (by omega)
  have e4 := ti_mul (a := d) (b := nI a) (by omega) (by omega)
  have p5 := pb (a := (d * nI a).toInt) (b := (nI b).toInt) (A := 178200 * 30) (B := 30) (by rw [e4]; exact p4) (by omega)
  have p6 := pb (a := d.toInt) (b := (nI a * nI b).toInt) (A := 178200) (B := 30 * 30) hd (by rw [e3]; exact p3)
  have e5 := ti_sub (a := S1 * nI b) (b := S2 * nI a) (by omega) (by omega)
  have e6 := ti_sub (a := 0) (b := S1 * nI b - S2 * nI a) (by rw [Int32.toInt_zero]; omega) (by rw [Int32.toInt_zero]; omega)
  rw [Int32.toInt_zero] at e6
  refine ⟨?_, ?_, ?_, fun E hE => ?_, l64_mul (by omega), by rw [e3]; exact p3⟩
  · rw [l64_mul (by omega), l64_mul (by omega)]
    exact l64_sub (by omega)
  · rw [cmp_ge, le_toInt, Int32.toInt_toInt64, Int32.toInt_zero, Int64.toInt_zero]
  · rw [l64_0]
    exact l64_sub (by rw [Int32.toInt_zero]; omega)
  · have hE2 : E.toInt.natAbs ≤ 178200 := by
      rcases hE with rfl | rfl
      · omega
      · rw [e6]; omega
    refine ⟨hE2, ?_⟩
    have p7 := pb (a := E.toInt) (b := w.toInt) (A := 178200) (B := 900) hE2 hw
    have e7 := ti_mul (a := E) (b := w) (by omega) (by omega)
    have e8 := ti_mul (a := d) (b := nI a * nI b) (by omega) (by omega)
    have e9 := ti_mul (a := d * nI a) (b := nI b) (by omega) (by omega)
    rw [cmp_le, le_toInt, l64_mul (by omega), l64_mul (by omega), l64_mul (by omega), Int32.toInt_toInt64, Int32.toInt_toInt64, e8, e9, e4, e3, Int.mul_assoc]
section PARTS
variable {x m : SQ}
theorem joined_bo (h : RR x m) (v w : Int32) : Bo (F6_joined v w x) (F7_joined v w m) := by
  unfold F7_joined F7_joined_34
  simp only [sx_let_e]
  have h := h.t0
  generalize sI m 0 0 0 = m at h ⊢
  obtain ⟨n, k1, k2, k3, k4⟩ := h.2.2.2.1
  obtain ⟨r, q1, q2⟩ := mean_both (v := v) (w := w) k1 k3 k4 k2
  unfold F6_joined F6_joined_20
  simp only [Xin, Min, bind_e, q1, q2]
  split
  · exact Bo.ret h
  · split
    · exact Bo.ret h
    · exact Bo.ret h
theorem ahead_bo (h : RR x m) (v w : Int32) : Bo (F6_ahead v w x) (F7_ahead v w m) := by
  unfold F7_ahead F7_ahead_24
  simp only [sx_let_e]
  have h := h.t0
  generalize sI m 0 0 0 = m at h ⊢
  obtain ⟨n, k1, k2, k3, k4⟩ := h.2.2.2.1
  obtain ⟨r, q1, q2⟩ := mean_both (v := 255) (w := w) k1 k3 k4 k2
  obtain ⟨r3, q3, q4⟩ := mean_both (v := (1 : Int32) <<< (v &&& 31)) (w := w) k1 k3 k4 k2
  have xm := XmanyT (x := x) (v := (1 : Int32) <<< (v &&& 31)) (A := m.1 9) k1 k3 (fun i hi => (k4 i hi).1)
  have mm := MmanyT (m := m) (v := (1 : Int32) <<< (v &&& 31)) k1 k2
  unfold F6_ahead F6_ahead_19 F6_ahead_48 F7_ahead_47
  simp only [Xin, Min, bind_e, sx_let_e, q1, q2, q3, q4, xm, mm]
  split
  · exact Bo.ret h
  · split
    · exact Bo.ret h
    · split
      · exact Bo.ret h
      · exact Bo.ret h
theorem cmp_N (a : Int32) : (lg_cmp a.toInt64 0 ≤ 0) = (a ≤ 0) := by
  rw [cmp_le, le_toInt, Int32.toInt_toInt64, Int32.toInt_zero, Int64.toInt_zero]
theorem parts_bo (h : RR x m) : Bo (F6_parts x) (F7_parts m) := by
  unfold F7_parts
  simp only [sx_let_e]
  have h := h.t0
  generalize sI m 0 0 0 = m at h ⊢
  obtain ⟨n, k1, k2, k3, k4⟩ := h.2.2.2.1
  unfold F6_parts F5_farthestBit
  have key : Ev2 (F5_farthestBit_10 (-9) 0 1 0 x) (F7_parts_16 (-9) 0 1 0 m) (fun r t => r.1 = t.1 ∧ RR r.2 t.2) := by
    unfold F5_farthestBit_10 F7_parts_16
    refine Ev2.loop (fun k s t => ∃ v1 d w, s = (v1, d, w, nI k, x) ∧ t = (v1, d.toInt64, w.toInt64, nI k, m) ∧ d.toInt.natAbs ≤ 178200 ∧ w.toInt.natAbs ≤ 900) 3 (fun k s t hk hI => ?_) (fun s t hI => ?_) ⟨-9, 0, 1, by rw [nI_0], by rw [nI_0, show (0 : Int32).toInt64 = 0 from by decide, show (1 : Int32).toInt64 = 1 from by decide], by decide, by decide⟩ (FU_gt (by omega))
    · obtain ⟨v1, d, w, rfl, rfl, hd, hw⟩ := hI
      have step : ∀ (M1 M2 : Int32), (255 : Int32) ^^^ M1 = M2 → (255 : Int32) - M1 = M2 → tWith k = M1 → F7_parts_16b v1 d.toInt64 w.toInt64 (nI k) m = F7_parts_48 v1 d.toInt64 w.toInt64 (nI k) M1 m → Ev2 (F5_farthestBit_10b v1 d w (nI k) x) (F7_parts_16b v1 d.toInt64 w.toInt64 (nI k) m) (fun p q => ∃ s2 t2, p = .inl s2 ∧ q = .inl t2 ∧ ∃ v1 d w, s2 = (v1, d, w, nI (k + 1), x) ∧ t2 = (v1, d.toInt64, w.toInt64, nI (k + 1), m) ∧ d.toInt.natAbs ≤ 178200 ∧ w.toInt.natAbs ≤ 900) := by
        intro M1 M2 eX eS eT eM
        rw [eM]
        obtain ⟨a, ha, ea⟩ := many_in (m.1 9) M1 n
        obtain ⟨b, hb, eb⟩ := many_in (m.1 9) M2 n
        have s1 := tsum_b (A := m.1 9) (B := m.1 10) (v := M1) n k1 (fun i hi => (k4 i hi).2.2.2)
        have s2 := tsum_b (A := m.1 9) (B := m.1 10) (v := M2) n k1 (fun i hi => (k4 i hi).2.2.2)
        have f3 : ¬ (3 : Int32) ≤ nI k := by rw [show (3 : Int32) = nI 3 from by decide]; exact nI_ge hk (by omega)
        have x1 := XmanyT (x := x) (v := M1) (A := m.1 9) k1 k3 (fun i hi => (k4 i hi).1)
        have x2 := XmanyT (x := x) (v := M2) (A := m.1 9) k1 k3 (fun i hi => (k4 i hi).1)
        have x3 := XsumT (x := x) (v := M1) (A := m.1 9) (B := m.1 10) k1 k3 (fun i hi => ⟨(k4 i hi).1, (k4 i hi).2.1⟩)
        have x4 := XsumT (x := x) (v := M2) (A := m.1 9) (B := m.1 10) k1 k3 (fun i hi => ⟨(k4 i hi).1, (k4 i hi).2.1⟩)
        have m1 := MmanyT (m := m) (v := M1) k1 k2
        have m2 := MmanyT (m := m) (v := M2) k1 k2
        have m3 := MsumT (m := m) (v := M1) k1 k2
        have m4 := MsumT (m := m) (v := M2) k1 k2
        rw [ea] at x1 m1
        rw [eb] at x2 m2
        generalize mm_tsum (m.1 9) (m.1 10) M1 n = S1 at s1 x3 m3
        generalize mm_tsum (m.1 9) (m.1 10) M2 n = S2 at s2 x4 m4
        simp (disch := omega) only [F5_farthestBit_10b, F5_farthestBit_109, F5_farthestBit_118, F7_parts_48, F7_parts_165, if_neg f3, nI_clamp, sx_ixN, if_true, eT, eX, eS, x1, x2, x3, x4, m1, m2, m3, m4, bind_e, sx_let_e, cmp_N, px_p1]
        by_cases qa : nI a ≤ 0
        · simp only [if_pos qa]
          exact Ev2.ret ⟨_, _, rfl, rfl, v1, d, w, rfl, rfl, hd, hw⟩
        · by_cases qb : nI b ≤ 0
          · simp only [if_neg qa, if_pos qb]
            exact Ev2.ret ⟨_, _, rfl, rfl, v1, d, w, rfl, rfl, hd, hw⟩
          · have a1 : 1 ≤ a := Nat.pos_of_ne_zero (fun e => qa (by rw [e, nI_0]; exact Int32.le_refl 0))
            have b1 : 1 ≤ b := Nat.pos_of_ne_zero (fun e => qb (by rw [e, nI_0]; exact Int32.le_refl 0))
            obtain ⟨g1, g2, g3, g4, g5, g6⟩ := far_num (S1 := S1) (S2 := S2) (d := d) (w := w) (a := a) (b := b) (by omega) (by omega) ⟨a1, by omega⟩ ⟨b1, by omega⟩ hd hw
            simp only [if_neg qa, if_neg qb, g1, g2, g3, F7_parts_128, F7_parts_152, F7_parts_165, sx_let_e, g5, px_p1]
            by_cases qD : 0 ≤ S1 * nI b - S2 * nI a
            · obtain ⟨r1, r2⟩ := g4 _ (Or.inl rfl)
              simp only [if_pos qD, r2]
              by_cases q9 : v1 = -9
              · simp only [if_pos q9]
                exact Ev2.ret ⟨_, _, rfl, rfl, _, _, _, rfl, rfl, r1, g6⟩
              · simp only [if_neg q9]
                by_cases qE : (S1 * nI b - S2 * nI a) * w ≤ d * (nI a * nI b)
                · simp only [if_pos qE]
                  exact Ev2.ret ⟨_, _, rfl, rfl, v1, d, w, rfl, rfl, hd, hw⟩
                · simp only [if_neg qE]
                  exact Ev2.ret ⟨_, _, rfl, rfl, _, _, _, rfl, rfl, r1, g6⟩
            · obtain ⟨r1, r2⟩ := g4 _ (Or.inr rfl)
              simp only [if_neg qD, r2]
              by_cases q9 : v1 = -9
              · simp only [if_pos q9]
                exact Ev2.ret ⟨_, _, rfl, rfl, _, _, _, rfl, rfl, r1, g6⟩
              · simp only [if_neg q9]
                by_cases qE : (0 - (S1 * nI b - S2 * nI a)) * w ≤ d * (nI a * nI b)
                · simp only [if_pos qE]
                  exact Ev2.ret ⟨_, _, rfl, rfl, v1, d, w, rfl, rfl, hd, hw⟩
                · simp only [if_neg qE]
                  exact Ev2.ret ⟨_, _, rfl, rfl, _, _, _, rfl, rfl, r1, g6⟩
      rcases (show k = 0 ∨ k = 1 ∨ k = 2 by omega) with rfl | rfl | rfl
      · exact step 170 85 (by decide) (by decide) (by decide) (by simp only [F7_parts_16b, if_neg (show ¬ (3 : Int32) ≤ nI 0 from by decide), if_pos nI_0])
      · exact step 204 51 (by decide) (by decide) (by decide) (by simp only [F7_parts_16b, if_neg (show ¬ (3 : Int32) ≤ nI 1 from by decide), if_neg (show ¬ nI 1 = (0 : Int32) from by decide), if_pos (show nI 1 = (1 : Int32) from by decide)])
      · exact step 240 15 (by decide) (by decide) (by decide) (by simp only [F7_parts_16b, if_neg (show ¬ (3 : Int32) ≤ nI 2 from by decide), if_neg (show ¬ nI 2 = (0 : Int32) from by decide), if_neg (show ¬ nI 2 = (1 : Int32) from by decide)])
    · obtain ⟨v1, d, w, rfl, rfl, hd, hw⟩ := hI
      have f3 : (3 : Int32) ≤ nI 3 := by decide
      simp only [F5_farthestBit_10b, F7_parts_16b, if_pos f3]
      exact Ev2.ret ⟨_, _, rfl, rfl, rfl, h⟩
  obtain ⟨⟨r, y⟩, ⟨t, n2⟩, e1, e2, p1, p2⟩ := key
  rw [e1, e2]
  simp only [bind_e]
  exact Bo.ret2 p1 p2
end PARTS
