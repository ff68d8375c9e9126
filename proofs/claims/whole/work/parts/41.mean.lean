/-! sums of trials -/
def mm_hit (A : Nat → Int32) (v : Int32) (i : Nat) : Int32 := (v >>> (A i &&& 31)) &&& 1
def mm_tsum (A B : Nat → Int32) (v : Int32) : Nat → Int32
  | 0 => 0
  | n + 1 => mm_tsum A B v n + (if (v >>> (A n &&& 31)) &&& 1 = 1 then B n else 0)
def mm_many (A : Nat → Int32) (v : Int32) : Nat → Int32
  | 0 => 0
  | n + 1 => mm_many A v n + mm_hit A v n
theorem hit01 (A : Nat → Int32) (v : Int32) (i : Nat) : mm_hit A v i = 0 ∨ mm_hit A v i = 1 := by
  obtain ⟨j, h, e⟩ := pk_andE (v >>> (A i &&& 31)) (m := 1) 1 (by decide)
  unfold mm_hit
  rw [e]
  rcases (show j = 0 ∨ j = 1 by omega) with rfl | rfl
  · exact Or.inl nI_0
  · exact Or.inr (by decide)
theorem many_in (A : Nat → Int32) (v : Int32) : ∀ n, ∃ j, j ≤ n ∧ mm_many A v n = nI j
  | 0 => ⟨0, by omega, nI_0.symm⟩
  | n + 1 => by
    obtain ⟨j, h, e⟩ := many_in A v n
    rw [mm_many, e]
    rcases hit01 A v n with q | q
    · exact ⟨j, by omega, by rw [q, Int32.add_zero]⟩
    · exact ⟨j + 1, by omega, by rw [q, px_p1]⟩
theorem ti_add {a b : Int32} (h : -2147483648 ≤ a.toInt + b.toInt) (h2 : a.toInt + b.toInt < 2147483648) : (a + b).toInt = a.toInt + b.toInt := by
  rw [Int32.toInt_add]
  exact Int.bmod_eq_of_le_mul_two (by omega) (by omega)
theorem ti_sub {a b : Int32} (h : -2147483648 ≤ a.toInt - b.toInt) (h2 : a.toInt - b.toInt < 2147483648) : (a - b).toInt = a.toInt - b.toInt := by
  rw [Int32.toInt_sub]
  exact Int.bmod_eq_of_le_mul_two (by omega) (by omega)
theorem ti_mul {a b : Int32} (h : -2147483648 ≤ a.toInt * b.toInt) (h2 : a.toInt * b.toInt < 2147483648) : (a * b).toInt = a.toInt * b.toInt := by
  rw [Int32.toInt_mul]
  exact Int.bmod_eq_of_le_mul_two (by omega) (by omega)
theorem tsum_b {A B : Nat → Int32} {v : Int32} : ∀ n, n ≤ 30 → (∀ i, i < n → -99 ≤ (B i).toInt ∧ (B i).toInt ≤ 99) → -(99 * (n : Int)) ≤ (mm_tsum A B v n).toInt ∧ (mm_tsum A B v n).toInt ≤ 99 * (n : Int)
  | 0, _, _ => by
    rw [mm_tsum, Int32.toInt_zero]
    omega
  | n + 1, hn, h => by
    obtain ⟨h1, h2⟩ := tsum_b (A := A) (v := v) n (by omega) (fun i hi => h i (by omega))
    obtain ⟨b1, b2⟩ := h n (by omega)
    rw [mm_tsum]
    split
    · rw [ti_add (by omega) (by omega)]
      omega
    · rw [Int32.add_zero]
      omega
/-- the greatest common divisor, as the class looks for it -/
def mm_gd (s c : Nat) : Nat → Nat
  | 0 => 1
  | k + 1 => if (k + 2) ∣ s ∧ (k + 2) ∣ c then k + 2 else mm_gd s c k
theorem gd_div (s c : Nat) : ∀ k, mm_gd s c k ∣ s ∧ mm_gd s c k ∣ c ∧ 1 ≤ mm_gd s c k ∧ mm_gd s c k ≤ k + 1
  | 0 => ⟨Nat.one_dvd _, Nat.one_dvd _, Nat.le_refl 1, Nat.le_refl 1⟩
  | k + 1 => by
    rw [mm_gd]
    split
    · rename_i q
      exact ⟨q.1, q.2, by omega, by omega⟩
    · obtain ⟨a, b, c, d⟩ := gd_div s c k
      exact ⟨a, b, c, by omega⟩
theorem gd_max {s c j : Nat} (h1 : j ∣ s) (h2 : j ∣ c) (h0 : 1 ≤ j) : ∀ k, j ≤ k + 1 → j ≤ mm_gd s c k
  | 0, h => h
  | k + 1, h => by
    rw [mm_gd]
    split
    · exact h
    · rename_i q
      have : j ≠ k + 2 := fun e => q (by rw [← e]; exact ⟨h1, h2⟩)
      exact gd_max h1 h2 h0 k (by omega)
theorem gd_gcd {s c : Nat} (hc : 0 < c) : mm_gd s c (c - 1) = Nat.gcd s c := by
  obtain ⟨a, b, d, e⟩ := gd_div s c (c - 1)
  have g0 : 0 < Nat.gcd s c := Nat.gcd_pos_of_pos_right s hc
  apply Nat.le_antisymm
  · exact Nat.le_of_dvd g0 (Nat.dvd_gcd a b)
  · exact gd_max (Nat.gcd_dvd_left s c) (Nat.gcd_dvd_right s c) g0 (c - 1) (by have := Nat.gcd_le_right s hc; omega)
/-- a small number and its size -/
def absN (x : Int32) (s : Nat) : Prop := (0 ≤ x ∧ x = nI s) ∨ (¬ 0 ≤ x ∧ x = nI 0 - nI s ∧ 0 - x = nI s)
theorem abs_of {x : Int32} {M : Nat} (hM : M < 2 ^ 30) (h1 : -(M : Int) ≤ x.toInt) (h2 : x.toInt ≤ M) : ∃ s, s ≤ M ∧ absN x s := by
  refine ⟨x.toInt.natAbs, by omega, ?_⟩
  unfold absN
  have hs : x.toInt.natAbs < 2 ^ 30 := by omega
  by_cases q : 0 ≤ x.toInt
  · left
    refine ⟨Int32.le_iff_toInt_le.mpr (by rw [Int32.toInt_zero]; exact q), Int32.toInt_inj.mp ?_⟩
    rw [nI_toInt (by omega)]
    omega
  · right
    refine ⟨fun e => q ?_, Int32.toInt_inj.mp ?_, Int32.toInt_inj.mp ?_⟩
    · have := Int32.le_iff_toInt_le.mp e
      rw [Int32.toInt_zero] at this
      exact this
    · rw [pk_sub_toInt (by omega) hs]
      omega
    · rw [nI_toInt (by omega), ti_sub (by rw [Int32.toInt_zero]; omega) (by rw [Int32.toInt_zero]; omega), Int32.toInt_zero]
      omega
theorem rem_abs {x : Int32} {s b : Nat} (h : absN x s) (hs : s < 2 ^ 20) (hb : 0 < b) (hb2 : b < 2 ^ 20) : (x - x / nI b * nI b = 0) ↔ b ∣ s := by
  rw [Nat.dvd_iff_mod_eq_zero]
  rcases h with ⟨-, rfl⟩ | ⟨-, rfl, -⟩
  · rw [pk_rem (by omega) hb (by omega), ← nI_0]
    have := Nat.mod_lt s hb
    exact nI_eq (by omega) (by omega)
  · have hq : s / b ≤ s := Nat.div_le_self s b
    have hp : s / b * b ≤ s := Nat.div_mul_le_self s b
    have e1 : (nI 0 - nI s) / nI b = nI 0 - nI (s / b) := by
      apply Int32.toInt_inj.mp
      rw [Int32.toInt_div, pk_sub_toInt (by omega) (by omega), pk_sub_toInt (by omega) (by omega), nI_toInt (by omega)]
      have e : ((0 : Nat) : Int) - (s : Int) = -(s : Int) := by omega
      rw [e, Int.neg_tdiv, ← Int.ofNat_tdiv]
      clear hp
      generalize s / b = q at hq ⊢
      rw [show ((0 : Nat) : Int) - ((q : Nat) : Int) = -((q : Nat) : Int) by omega]
      exact Int.bmod_eq_of_le_mul_two (by omega) (by omega)
    have e2 : (nI 0 - nI (s / b)) * nI b = nI 0 - nI (s / b * b) := by
      rw [nI_0, Int32.zero_sub, Int32.zero_sub, Int32.neg_mul, pk_mul]
    rw [e1, e2]
    have e3 : (nI 0 - nI s - (nI 0 - nI (s / b * b))).toInt = ((s / b * b : Nat) : Int) - s := by
      rw [ti_sub, pk_sub_toInt (by omega) (by omega), pk_sub_toInt (by omega) (by omega)]
      · omega
      · rw [pk_sub_toInt (by omega) (by omega), pk_sub_toInt (by omega) (by omega)]; omega
      · rw [pk_sub_toInt (by omega) (by omega), pk_sub_toInt (by omega) (by omega)]; omega
    have e4 := Nat.div_add_mod s b
    have e5 : b * (s / b) = s / b * b := Nat.mul_comm _ _
    constructor
    · intro e
      rw [e, Int32.toInt_zero] at e3
      omega
    · intro e
      apply Int32.toInt_inj.mp
      rw [e3, Int32.toInt_zero]
      omega
section MEAN
variable {x m : SQ}
theorem XsumT {v : Int32} {A B : Nat → Int32} {n : Nat} (hn : n ≤ 30) (hx : x.1 34 0 = nI n) (he : ∀ i, i < n → x.1 35 i = A i ∧ x.1 36 i = B i) : F5_sumOf v x = some (mm_tsum A B v n, x) := by
  unfold F5_sumOf F5_sumOf_4
  refine Ev.up (S := fun k => (mm_tsum A B v k, nI k, x)) (N := n) (fun k hk => ?_) ?_ (FU_gt (by omega)) (by rw [nI_0, mm_tsum])
  · obtain ⟨a, b⟩ := he k hk
    simp (disch := omega) only [F5_sumOf_4b, F5_sumOf_35, gI_def, hx, if_neg (nI_ge hk (show n < 2 ^ 31 by omega)), Int32.add_zero, px_m3, px_a3, px_a24, px_a36, px_a42, px_m27, px_p1, px_p2, px_p3, nI_add, nI_clamp, sx_ixN, if_true, Bool.false_eq_true, if_false, a, b, sx_let_e, mm_tsum]
    by_cases q : (v >>> (A k &&& 31)) &&& 1 = 1
    · rw [if_pos q, if_pos q]
    · rw [if_neg q, if_neg q, Int32.add_zero]
  · simp only [F5_sumOf_4b, gI_def, hx, if_pos (nI_le (Nat.le_refl n) (show n < 2 ^ 31 by omega)), Option.map_some]
theorem XmanyT {v : Int32} {A : Nat → Int32} {n : Nat} (hn : n ≤ 30) (hx : x.1 34 0 = nI n) (he : ∀ i, i < n → x.1 35 i = A i) : F5_manyOf v x = some (mm_many A v n, x) := by
  unfold F5_manyOf F5_manyOf_4
  refine Ev.up (S := fun k => (mm_many A v k, nI k, x)) (N := n) (fun k hk => ?_) ?_ (FU_gt (by omega)) (by rw [nI_0, mm_many])
  · have a := he k hk
    have b := hit01 A v k
    unfold mm_hit at b
    simp (disch := omega) only [F5_manyOf_4b, F5_manyOf_29, gI_def, hx, if_neg (nI_ge hk (show n < 2 ^ 31 by omega)), Int32.add_zero, px_m3, px_a3, px_a24, px_a36, px_a42, px_m27, px_p1, px_p2, px_p3, nI_add, nI_clamp, sx_ixN, if_true, Bool.false_eq_true, if_false, a, sx_let_e, mm_many, mm_hit]
    rcases b with b | b
    · rw [if_neg (show ¬ ((v >>> (A k &&& 31)) &&& 1 = 1) by rw [b]; decide), b, Int32.add_zero]
    · rw [if_pos b, b]
  · simp only [F5_manyOf_4b, gI_def, hx, if_pos (nI_le (Nat.le_refl n) (show n < 2 ^ 31 by omega)), Option.map_some]
theorem MsumT {v : Int32} {n : Nat} (hn : n ≤ 30) (hx : m.1 0 19 = nI n) : F7_sumOf v m = some (mm_tsum (m.1 9) (m.1 10) v n, m) := by
  unfold F7_sumOf F7_sumOf_4
  refine Ev.up (S := fun k => (mm_tsum (m.1 9) (m.1 10) v k, nI k, m)) (N := n) (fun k hk => ?_) ?_ (FU_gt (by omega)) (by rw [nI_0, mm_tsum])
  · simp (disch := omega) only [F7_sumOf_4b, F7_sumOf_37, gI_def, hx, if_neg (nI_ge hk (show n < 2 ^ 31 by omega)), px_p1, nI_clamp, sx_ixN, if_true, sx_let_e, mm_tsum]
    by_cases q : (v >>> (m.1 9 k &&& 31)) &&& 1 = 1
    · rw [if_pos q, if_pos q]
    · rw [if_neg q, if_neg q]
  · simp only [F7_sumOf_4b, gI_def, hx, if_pos (nI_le (Nat.le_refl n) (show n < 2 ^ 31 by omega)), Option.map_some]
theorem MmanyT {v : Int32} {n : Nat} (hn : n ≤ 30) (hx : m.1 0 19 = nI n) : F7_manyOf v m = some (mm_many (m.1 9) v n, m) := by
  unfold F7_manyOf F7_manyOf_4
  refine Ev.up (S := fun k => (mm_many (m.1 9) v k, nI k, m)) (N := n) (fun k hk => ?_) ?_ (FU_gt (by omega)) (by rw [nI_0, mm_many])
  · simp (disch := omega) only [F7_manyOf_4b, gI_def, hx, if_neg (nI_ge hk (show n < 2 ^ 31 by omega)), Int32.add_zero, px_m3, px_a3, px_a24, px_a36, px_a42, px_m27, px_p1, px_p2, px_p3, nI_add, nI_clamp, sx_ixN, if_true, Bool.false_eq_true, if_false, sx_let_e, mm_many, mm_hit]
  · simp only [F7_manyOf_4b, gI_def, hx, if_pos (nI_le (Nat.le_refl n) (show n < 2 ^ 31 by omega)), Option.map_some]
theorem Mgcd : ∀ (n a b : Nat), b < n → a < 2 ^ 20 → b < 2 ^ 20 → sx_loop (fun s4 : Int32 × Int32 × SQ => F7_gcd_13b s4.1 s4.2.1 s4.2.2) n (nI a, nI b, m) = some (nI (Nat.gcd a b), m)
  | 0, _, _, h, _, _ => by omega
  | n + 1, a, b, h, ha, hb => by
    show (F7_gcd_13b (nI a) (nI b) m).bind _ = _
    by_cases q : b = 0
    · subst q
      have e : nI 0 = (0 : Int32) := nI_0
      simp only [F7_gcd_13b, if_pos e, Nat.gcd_zero_right]
      rfl
    · have e : ¬ nI b = (0 : Int32) := by rw [← nI_0]; exact fun z => q ((nI_eq (by omega) (by omega)).mp z)
      have hm := Nat.mod_lt a (show 0 < b by omega)
      simp only [F7_gcd_13b, if_neg e, if_pos (sx_n0_of e), sx_let_e, pk_rem (show a < 2 ^ 31 by omega) (show 0 < b by omega) (show b < 2 ^ 31 by omega)]
      have ih := Mgcd n b (a % b) (by omega) hb (by omega)
      rw [Nat.gcd_comm a b, Nat.gcd_rec b a, Nat.gcd_comm (a % b) b]
      exact ih
theorem mean_both {v w : Int32} {n : Nat} (hn : n ≤ 30) (hx : x.1 34 0 = nI n) (he : ∀ i, i < n → x.1 35 i = m.1 9 i ∧ x.1 36 i = m.1 10 i ∧ inN (m.1 9 i) 0 7 ∧ (-99 ≤ (m.1 10 i).toInt ∧ (m.1 10 i).toInt ≤ 99)) (hm : m.1 0 19 = nI n) : ∃ r, F5_meanOf v w x = some (r, x) ∧ F7_meanOf v w m = some (r, m) := by
  have hb := tsum_b (A := m.1 9) (B := m.1 10) (v := v) n hn (fun i hi => (he i hi).2.2.2)
  obtain ⟨s, hs, ha⟩ := abs_of (M := 2970) (by omega) (x := mm_tsum (m.1 9) (m.1 10) v n) (by omega) (by omega)
  obtain ⟨c, hc, ec⟩ := many_in (m.1 9) v n
  unfold F5_meanOf F7_meanOf
  simp only [XsumT (A := m.1 9) (B := m.1 10) hn hx (fun i hi => ⟨(he i hi).1, (he i hi).2.1⟩), XmanyT (A := m.1 9) hn hx (fun i hi => (he i hi).1), MsumT hn hm, MmanyT hn hm, bind_e, sx_let_e, ec]
  generalize mm_tsum (m.1 9) (m.1 10) v n = X at ha ⊢
  by_cases q : c = 0
  · subst q
    rw [if_pos nI_0, if_pos nI_0]
    exact ⟨_, rfl, rfl⟩
  · have e : ¬ nI c = (0 : Int32) := by rw [← nI_0]; exact fun z => q ((nI_eq (by omega) (by omega)).mp z)
    rw [if_neg e, if_neg e]
    have hg := gd_gcd (s := s) (c := c) (by omega)
    obtain ⟨d1, d2, d3, d4⟩ := gd_div s c (c - 1)
    have eg : ¬ nI (Nat.gcd s c) = (0 : Int32) := by rw [← nI_0]; exact fun z => by have := (nI_eq (by omega) (by omega)).mp z; omega
    have hG : F7_gcd X (nI c) m = some (nI (Nat.gcd s c), m) := by
      unfold F7_gcd F7_gcd_10 F7_gcd_13
      have hk := Mgcd (m := m) FU s c (FU_gt (by omega)) (by omega) (by omega)
      rcases ha with ⟨a1, a2⟩ | ⟨a1, a2, a3⟩
      · rw [if_pos a1, a2]
        exact hk
      · rw [if_neg a1, a3]
        exact hk
    have hC : F5_meanOf_27 w X (nI c) 1 2 x = some ((if w = 0 then X else nI c) / nI (Nat.gcd s c), x) := by
      unfold F5_meanOf_27
      refine Ev.up (S := fun k => (nI (mm_gd s c k), nI (k + 2), x)) (N := c - 1) (fun k hk => ?_) ?_ (FU_gt (by omega)) (by rw [mm_gd, show (1 : Int32) = nI 1 from by decide, show (2 : Int32) = nI (0 + 2) from by decide])
      · have f1 : ¬ nI c < nI (k + 2) := nI_nlt (by omega) (by omega)
        have f2 : ¬ nI (k + 2) = (0 : Int32) := by rw [← nI_0]; exact fun z => by have := (nI_eq (by omega) (by omega)).mp z; omega
        have f3 := rem_abs ha (show s < 2 ^ 20 by omega) (show 0 < k + 2 by omega) (show k + 2 < 2 ^ 20 by omega)
        have f4 := rem_abs (x := nI c) (s := c) (Or.inl ⟨nI_pos' (by omega), rfl⟩) (by omega) (show 0 < k + 2 by omega) (show k + 2 < 2 ^ 20 by omega)
        simp only [F5_meanOf_27b, F5_meanOf_53, if_neg f1, sx_n0_of f2, if_true, f3, f4, sx_let_e, mm_gd, px_p1]
        by_cases q1 : (k + 2) ∣ s
        · by_cases q2 : (k + 2) ∣ c
          · rw [if_pos q1, if_pos q2, if_pos ⟨q1, q2⟩]
          · rw [if_pos q1, if_neg q2, if_neg (fun z => q2 z.2)]
        · rw [if_neg q1, if_neg (fun z => q1 z.1)]
      · have f1 : nI c < nI (c - 1 + 2) := nI_lt (by omega) (by omega)
        simp only [F5_meanOf_27b, F5_meanOf_69, if_pos f1, hg, sx_n0_of eg, if_true, Option.map_some]
        split
        · rfl
        · rfl
    rw [hC, hG]
    simp only [bind_e, sx_let_e, sx_n0_of eg, if_true]
    refine ⟨_, rfl, ?_⟩
    split
    · rfl
    · rfl
end MEAN
