/-! THE TEXT, SCANNED ON BOTH SIDES -/
theorem row_ex {Q : Nat → Prop} [DecidablePred Q] {n : Nat} (hn : ¬ Q n) : ∀ d p : Nat, p + d = n → ∃ e, p ≤ e ∧ e ≤ n ∧ (∀ i, p ≤ i → i < e → Q i) ∧ ¬ Q e
  | 0, p, h => ⟨p, Nat.le_refl p, by omega, fun i h1 h2 => by omega, by rw [show p = n by omega]; exact hn⟩
  | d + 1, p, h => by
    by_cases q : Q p
    · obtain ⟨e, h1, h2, h3, h4⟩ := row_ex hn d (p + 1) (by omega)
      refine ⟨e, by omega, h2, fun i a b => ?_, h4⟩
      by_cases z : i = p
      · rw [z]; exact q
      · exact h3 i (by omega) b
    · exact ⟨p, Nat.le_refl p, by omega, fun i h1 h2 => by omega, q⟩
/-- the byte at a place, -1 behind the text -/
def mm_by (t : Nat → Int32) (n p : Nat) : Int32 := if p < n then t p else -1
def isL (b : Int32) : Prop := wi b 97 122 = 1
def isD (b : Int32) : Prop := wi b 48 57 = 1
theorem wi01 (v a b : Int32) : wi v a b = 0 ∨ wi v a b = 1 := by
  unfold wi
  split
  · exact Or.inl rfl
  · split
    · exact Or.inl rfl
    · exact Or.inr rfl
theorem isL_n {b : Int32} (h : ¬ isL b) : wi b 97 122 = 0 := (wi01 b 97 122).resolve_right h
theorem isD_n {b : Int32} (h : ¬ isD b) : wi b 48 57 = 0 := (wi01 b 48 57).resolve_right h
theorem isL_iff (b : Int32) : isL b ↔ ∃ j, 97 ≤ j ∧ j ≤ 122 ∧ b = nI j := by
  unfold isL
  rcases wi_lit b (a := 97) (b := 122) (by omega) (by omega) 97 122 (by decide) (by decide) with ⟨j, h1, h2, h3, h4⟩ | ⟨h1, h2⟩
  · exact ⟨fun _ => ⟨j, h1, h2, h3⟩, fun _ => h4⟩
  · exact ⟨fun z => absurd (h1.symm.trans z) (by decide), fun ⟨j, a, b, c⟩ => absurd c (h2 j a b)⟩
theorem isD_iff (b : Int32) : isD b ↔ ∃ j, 48 ≤ j ∧ j ≤ 57 ∧ b = nI j := by
  unfold isD
  rcases wi_lit b (a := 48) (b := 57) (by omega) (by omega) 48 57 (by decide) (by decide) with ⟨j, h1, h2, h3, h4⟩ | ⟨h1, h2⟩
  · exact ⟨fun _ => ⟨j, h1, h2, h3⟩, fun _ => h4⟩
  · exact ⟨fun z => absurd (h1.symm.trans z) (by decide), fun ⟨j, a, b, c⟩ => absurd c (h2 j a b)⟩
theorem isL_m1 : ¬ isL (-1) := by unfold isL wi; decide
theorem isD_m1 : ¬ isD (-1) := by unfold isD wi; decide
theorem isLD {b : Int32} (h : isL b) : ¬ isD b := by
  intro z
  obtain ⟨j, a, c, rfl⟩ := (isL_iff b).mp h
  obtain ⟨i, d, e, f⟩ := (isD_iff (nI j)).mp z
  have := (nI_eq (by omega) (by omega)).mp f
  omega
theorem by_lt {t : Nat → Int32} {n p : Nat} (h : p < n) : mm_by t n p = t p := by
  unfold mm_by
  rw [if_pos h]
theorem by_n (t : Nat → Int32) (n : Nat) : mm_by t n n = -1 := by
  unfold mm_by
  rw [if_neg (by omega)]
theorem rowL (t : Nat → Int32) {n p : Nat} (hp : p ≤ n) : ∃ e, p ≤ e ∧ e ≤ n ∧ (∀ i, p ≤ i → i < e → isL (mm_by t n i)) ∧ ¬ isL (mm_by t n e) := by
  have := row_ex (Q := fun i => wi (mm_by t n i) 97 122 = 1) (n := n) (by show ¬ isL _; rw [by_n]; exact isL_m1) (n - p) p (by omega)
  exact this
theorem rowD (t : Nat → Int32) {n p : Nat} (hp : p ≤ n) : ∃ e, p ≤ e ∧ e ≤ n ∧ (∀ i, p ≤ i → i < e → isD (mm_by t n i)) ∧ ¬ isD (mm_by t n e) := by
  have := row_ex (Q := fun i => wi (mm_by t n i) 48 57 = 1) (n := n) (by show ¬ isD _; rw [by_n]; exact isD_m1) (n - p) p (by omega)
  exact this
theorem rowS (t : Nat → Int32) {n p : Nat} (hp : p ≤ n) : ∃ e, p ≤ e ∧ e ≤ n ∧ (∀ i, p ≤ i → i < e → mm_by t n i = 32) ∧ ¬ mm_by t n e = 32 := by
  have := row_ex (Q := fun i => mm_by t n i = 32) (n := n) (by rw [by_n]; decide) (n - p) p (by omega)
  exact this
section SCAN
variable {x m : SQ}
theorem XisLetter (v : Int32) : F3_isLetter v x = some (wi v 97 122, x) := by
  unfold F3_isLetter F3_isLetter_16 wi
  simp only [px_ite]
theorem XisDigit (v : Int32) : F3_isDigit v x = some (wi v 48 57, x) := by
  unfold F3_isDigit F3_isDigit_16 wi
  simp only [px_ite]
theorem MbyteAt {n p : Nat} (hx : m.1 0 3 = nI n) (hn : n ≤ 400) (hp : p ≤ 500) : F7_byteAt (nI p) m = some (mm_by (m.1 1) n p, m) := by
  unfold F7_byteAt mm_by
  simp only [gI_def, hx]
  by_cases q : p < n
  · simp (disch := omega) only [if_neg (nI_ge q (show n < 2 ^ 31 by omega)), if_pos q, Int32.add_zero, px_m3, px_a3, px_a24, px_a36, px_a42, px_m27, px_p1, px_p2, px_p3, nI_add, nI_clamp, sx_ixN, if_true, Bool.false_eq_true, if_false]
  · rw [if_pos (nI_le (show n ≤ p by omega) (by omega)), if_neg q]
theorem XrowL {n s e : Nat} {t : Nat → Int32} (hx : x.1 8 0 = nI n) (hn : n ≤ 400) (ht : ∀ i, i < n → x.1 9 i = t i) (hs : s < n) (he : s ≤ e ∧ e ≤ n) (h1 : ∀ i, s ≤ i → i < e → isL (mm_by t n i)) (h2 : ¬ isL (mm_by t n e)) (h0 : isL (t s)) : F3_rowEnd (nI s) x = some (nI e, x) := by
  have hd : wi (t s) 48 57 = 0 := isD_n (isLD h0)
  have hse : s < e := by
    rcases Nat.lt_or_ge s e with q | q
    · exact q
    · exfalso
      rw [show e = s by omega, by_lt hs] at h2
      exact h2 h0
  unfold F3_rowEnd
  simp (disch := omega) only [Int32.add_zero, px_m3, px_a3, px_a24, px_a36, px_a42, px_m27, px_p1, px_p2, px_p3, nI_add, nI_clamp, sx_ixN, if_true, Bool.false_eq_true, if_false, gI_def, ht s hs, XisLetter, XisDigit, bind_e, sx_let_e, hd, show wi (t s) 97 122 = 1 from h0]
  unfold F3_rowEnd_25
  refine Ev.up (S := fun k => (nI (s + 1 + k), x)) (N := e - (s + 1)) (fun k hk => ?_) ?_ (FU_gt (by omega)) (by rw [Nat.add_zero])
  · have hi : s + 1 + k < n := by omega
    have hl := h1 (s + 1 + k) (by omega) (by omega)
    rw [by_lt hi] at hl
    have f2 : ¬ (1 : Int32) = 0 := by decide
    simp (disch := omega) only [F3_rowEnd_25b, F3_rowEnd_68, gI_def, hx, if_neg (nI_ge hi (show n < 2 ^ 31 by omega)), if_neg f2, Int32.add_zero, px_m3, px_a3, px_a24, px_a36, px_a42, px_m27, px_p1, px_p2, px_p3, nI_add, nI_clamp, sx_ixN, if_true, Bool.false_eq_true, if_false, ht _ hi, XisLetter, show wi (t (s + 1 + k)) 97 122 = 1 from hl, bind_e, sx_let_e]
    rw [show s + 1 + k + 1 = s + 1 + (k + 1) by omega]
  · have ee : s + 1 + (e - (s + 1)) = e := by omega
    rw [ee]
    by_cases q : e = n
    · subst q
      simp only [F3_rowEnd_25b, F3_rowEnd_74, gI_def, hx, if_pos (nI_le (Nat.le_refl e) (show e < 2 ^ 31 by omega))]
    · have hi : e < n := by omega
      rw [by_lt hi] at h2
      have f2 : ¬ (1 : Int32) = 0 := by decide
      simp (disch := omega) only [F3_rowEnd_25b, F3_rowEnd_51, F3_rowEnd_74, gI_def, hx, if_neg (nI_ge hi (show n < 2 ^ 31 by omega)), if_neg f2, Int32.add_zero, px_m3, px_a3, px_a24, px_a36, px_a42, px_m27, px_p1, px_p2, px_p3, nI_add, nI_clamp, sx_ixN, if_true, Bool.false_eq_true, if_false, ht _ hi, XisLetter, isL_n h2, bind_e]
theorem XrowD {n s e : Nat} {t : Nat → Int32} (hx : x.1 8 0 = nI n) (hn : n ≤ 400) (ht : ∀ i, i < n → x.1 9 i = t i) (hs : s < n) (he : s ≤ e ∧ e ≤ n) (h1 : ∀ i, s ≤ i → i < e → isD (mm_by t n i)) (h2 : ¬ isD (mm_by t n e)) (h0 : isD (t s)) : F3_rowEnd (nI s) x = some (nI e, x) := by
  have hd : wi (t s) 97 122 = 0 := isL_n (fun z => isLD z h0)
  have hse : s < e := by
    rcases Nat.lt_or_ge s e with q | q
    · exact q
    · exfalso
      rw [show e = s by omega, by_lt hs] at h2
      exact h2 h0
  unfold F3_rowEnd
  simp (disch := omega) only [Int32.add_zero, px_m3, px_a3, px_a24, px_a36, px_a42, px_m27, px_p1, px_p2, px_p3, nI_add, nI_clamp, sx_ixN, if_true, Bool.false_eq_true, if_false, gI_def, ht s hs, XisLetter, XisDigit, bind_e, sx_let_e, hd, show wi (t s) 48 57 = 1 from h0]
  unfold F3_rowEnd_25
  refine Ev.up (S := fun k => (nI (s + 1 + k), x)) (N := e - (s + 1)) (fun k hk => ?_) ?_ (FU_gt (by omega)) (by rw [Nat.add_zero])
  · have hi : s + 1 + k < n := by omega
    have hl := h1 (s + 1 + k) (by omega) (by omega)
    rw [by_lt hi] at hl
    have f2 : ¬ (1 : Int32) = 0 := by decide
    simp (disch := omega) only [F3_rowEnd_25b, F3_rowEnd_51, F3_rowEnd_68, gI_def, hx, if_neg (nI_ge hi (show n < 2 ^ 31 by omega)), if_neg f2, Int32.add_zero, px_m3, px_a3, px_a24, px_a36, px_a42, px_m27, px_p1, px_p2, px_p3, nI_add, nI_clamp, sx_ixN, if_true, Bool.false_eq_true, if_false, ht _ hi, XisDigit, show wi (t (s + 1 + k)) 48 57 = 1 from hl, bind_e, sx_let_e]
    rw [show s + 1 + k + 1 = s + 1 + (k + 1) by omega]
  · have ee : s + 1 + (e - (s + 1)) = e := by omega
    rw [ee]
    by_cases q : e = n
    · subst q
      simp only [F3_rowEnd_25b, F3_rowEnd_74, gI_def, hx, if_pos (nI_le (Nat.le_refl e) (show e < 2 ^ 31 by omega))]
    · have hi : e < n := by omega
      rw [by_lt hi] at h2
      have f2 : ¬ (1 : Int32) = 0 := by decide
      simp (disch := omega) only [F3_rowEnd_25b, F3_rowEnd_51, F3_rowEnd_74, gI_def, hx, if_neg (nI_ge hi (show n < 2 ^ 31 by omega)), if_neg f2, Int32.add_zero, px_m3, px_a3, px_a24, px_a36, px_a42, px_m27, px_p1, px_p2, px_p3, nI_add, nI_clamp, sx_ixN, if_true, Bool.false_eq_true, if_false, ht _ hi, XisDigit, isD_n h2, bind_e]
theorem XrowO {n s : Nat} {t : Nat → Int32} (hx : x.1 8 0 = nI n) (hn : n ≤ 400) (ht : ∀ i, i < n → x.1 9 i = t i) (hs : s < n) (hl : ¬ isL (t s)) (hd : ¬ isD (t s)) : F3_rowEnd (nI s) x = some (nI (s + 1), x) := by
  unfold F3_rowEnd
  simp (disch := omega) only [Int32.add_zero, px_m3, px_a3, px_a24, px_a36, px_a42, px_m27, px_p1, px_p2, px_p3, nI_add, nI_clamp, sx_ixN, if_true, Bool.false_eq_true, if_false, gI_def, ht s hs, XisLetter, XisDigit, bind_e, sx_let_e, isL_n hl, isD_n hd]
  unfold F3_rowEnd_25
  refine Ev.up (S := fun k => (nI (s + 1), x)) (N := 0) (fun k hk => by omega) ?_ (FU_gt (by omega)) rfl
  by_cases q : s + 1 = n
  · simp only [F3_rowEnd_25b, F3_rowEnd_74, gI_def, hx, if_pos (nI_le (show n ≤ s + 1 by omega) (show s + 1 < 2 ^ 31 by omega))]
  · simp only [F3_rowEnd_25b, F3_rowEnd_51, F3_rowEnd_74, gI_def, hx, if_neg (nI_ge (show s + 1 < n by omega) (show n < 2 ^ 31 by omega)), if_true]
end SCAN
