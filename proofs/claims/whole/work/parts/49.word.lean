/-! words -/
def mm_sp (w : Nat) (t : Nat → Int32) (s e : Nat) : Prop := e - s = sx_stl w ∧ ∀ i, i < sx_stl w → t (s + i) = sx_sch w i
def mm_pk (b : Nat → Nat) : Nat → Nat
  | 0 => 0
  | k + 1 => 256 * mm_pk b k + b k
def mm_c (w i : Nat) : Nat := (sx_sch w i).toNatClampNeg
theorem pk_cong {b c : Nat → Nat} : ∀ k, (∀ i, i < k → b i = c i) → mm_pk b k = mm_pk c k
  | 0, _ => rfl
  | k + 1, h => by rw [mm_pk, mm_pk, pk_cong k (fun i hi => h i (by omega)), h k (by omega)]
theorem pk_uniq {b c : Nat → Nat} : ∀ k k2, (∀ i, i < k → 1 ≤ b i ∧ b i < 256) → (∀ i, i < k2 → 1 ≤ c i ∧ c i < 256) → mm_pk b k = mm_pk c k2 → k = k2 ∧ ∀ i, i < k → b i = c i
  | 0, 0, _, _, _ => ⟨rfl, fun i hi => by omega⟩
  | 0, k2 + 1, _, h2, e => by
    have := h2 k2 (by omega)
    rw [mm_pk, mm_pk] at e
    omega
  | k + 1, 0, h1, _, e => by
    have := h1 k (by omega)
    rw [mm_pk, mm_pk] at e
    omega
  | k + 1, k2 + 1, h1, h2, e => by
    have a := h1 k (by omega)
    have c2 := h2 k2 (by omega)
    rw [mm_pk, mm_pk] at e
    obtain ⟨e1, e2⟩ := pk_uniq k k2 (fun i hi => h1 i (by omega)) (fun i hi => h2 i (by omega)) (by omega)
    subst e1
    refine ⟨rfl, fun i hi => ?_⟩
    by_cases q : i = k
    · rw [q]; omega
    · exact e2 i (by omega)
theorem pkN_lt {b : Nat → Nat} : ∀ k, (∀ i, i < k → b i < 256) → mm_pk b k < 256 ^ k
  | 0, _ => by rw [mm_pk]; omega
  | k + 1, h => by
    have h1 := pkN_lt (b := b) k (fun i hi => h i (by omega))
    have h2 := h k (by omega)
    rw [mm_pk, Nat.pow_succ]
    omega
theorem c_in {w i : Nat} (hw : w < 6) (hi : i < sx_stl w) : 1 ≤ mm_c w i ∧ mm_c w i < 256 ∧ sx_sch w i = nI (mm_c w i) := by
  have e : ∀ w : Fin 6, ∀ i : Fin 5, i.val < sx_stl w.val → 1 ≤ mm_c w.val i.val ∧ mm_c w.val i.val < 256 ∧ sx_sch w.val i.val = nI (mm_c w.val i.val) := by decide +kernel
  have l : ∀ w : Fin 6, sx_stl w.val ≤ 5 := by decide +kernel
  have := l ⟨w, hw⟩
  simp only at this
  exact e ⟨w, hw⟩ ⟨i, by omega⟩ hi
theorem stl_le {w : Nat} (hw : w < 6) : 1 ≤ sx_stl w ∧ sx_stl w ≤ 5 := by
  have l : ∀ w : Fin 6, 1 ≤ sx_stl w.val ∧ sx_stl w.val ≤ 5 := by decide +kernel
  exact l ⟨w, hw⟩
/-- the letters of a row, as numbers -/
def mm_b (t : Nat → Int32) (s i : Nat) : Nat := (t (s + i)).toNatClampNeg
theorem b_of {t : Nat → Int32} {s i : Nat} (h : isL (t (s + i))) : 97 ≤ mm_b t s i ∧ mm_b t s i ≤ 122 ∧ t (s + i) = nI (mm_b t s i) := by
  obtain ⟨j, h1, h2, h3⟩ := (isL_iff _).mp h
  have e : mm_b t s i = j := by unfold mm_b; rw [h3]; exact nI_clamp (by omega)
  rw [e]
  exact ⟨h1, h2, h3⟩
def m6 (k : Nat) : Nat := if k < 6 then k else 6
theorem sp_pk {w s e : Nat} {t : Nat → Int32} (hw : w < 6) (hse : s < e) (hl : ∀ i, s ≤ i → i < e → isL (t i)) : mm_sp w t s e ↔ mm_pk (mm_b t s) (m6 (e - s)) = mm_pk (mm_c w) (sx_stl w) := by
  have hs := stl_le hw
  have m1 : m6 (e - s) ≤ e - s ∧ (m6 (e - s) < 6 → m6 (e - s) = e - s) ∧ m6 (e - s) ≤ 6 := by unfold m6; split <;> omega
  constructor
  · rintro ⟨a, b⟩
    have : m6 (e - s) = sx_stl w := by unfold m6; rw [if_pos (by omega)]; exact a
    rw [this]
    refine pk_cong _ (fun i hi => ?_)
    unfold mm_b mm_c
    rw [b i hi]
  · intro h
    obtain ⟨a, b⟩ := pk_uniq _ _ (fun i hi => by obtain ⟨x, y, _⟩ := b_of (hl (s + i) (by omega) (by omega)); omega) (fun i hi => ⟨(c_in hw hi).1, (c_in hw hi).2.1⟩) h
    refine ⟨by omega, fun i hi => ?_⟩
    rw [(b_of (hl (s + i) (by omega) (by omega))).2.2, b i (by omega), ← (c_in hw hi).2.2]
section WORD
variable {x m : SQ}
theorem Xspell {w n s e : Nat} {t : Nat → Int32} (hw : w < 6) (hn : n ≤ 400) (ht : ∀ i, i < n → x.1 9 i = t i) (hs : s < e) (he : e ≤ n) : (mm_sp w t s e ∧ F3_spells w (nI s) (nI e) x = some (1, x)) ∨ (¬ mm_sp w t s e ∧ F3_spells w (nI s) (nI e) x = some (0, x)) := by
  have hl := stl_le hw
  have sub : nI e - nI s = nI (e - s) := pk_sub (by omega)
  unfold F3_spells
  rw [sub]
  by_cases q : e - s = sx_stl w
  · rw [if_pos (by rw [q])]
    obtain ⟨k, h1, h2, h3, h4⟩ := row_ex (Q := fun i => i < sx_stl w ∧ t (s + i) = sx_sch w i) (n := sx_stl w) (fun z => by omega) (sx_stl w) 0 (by omega)
    unfold F3_spells_15
    have step : ∀ i, i < k → F3_spells_15b w (nI s) (nI i) x = some (.inl (nI (i + 1), x)) := fun i hi => by
      obtain ⟨a, b⟩ := h3 i (by omega) hi
      simp (disch := omega) only [F3_spells_15b, if_neg (nI_ge a (show sx_stl w < 2 ^ 31 by omega)), Int32.add_zero, px_m3, px_a3, px_a24, px_a36, px_a42, px_m27, px_p1, px_p2, px_p3, nI_add, nI_clamp, sx_ixN, if_true, Bool.false_eq_true, if_false, gI_def, ht (s + i) (by omega), b, sx_let_e]
    by_cases z : k = sx_stl w
    · left
      refine ⟨⟨q, fun i hi => (h3 i (by omega) (by omega)).2⟩, ?_⟩
      refine Ev.up (S := fun i => (nI i, x)) (N := k) step ?_ (FU_gt (by omega)) (by rw [nI_0])
      simp only [F3_spells_15b, if_pos (nI_le (show sx_stl w ≤ k by omega) (show k < 2 ^ 31 by omega)), Option.map_some]
    · right
      have hne : ¬ t (s + k) = sx_sch w k := fun y => h4 ⟨by omega, y⟩
      refine ⟨fun y => hne (y.2 k (by omega)), ?_⟩
      refine Ev.up (S := fun i => (nI i, x)) (N := k) step ?_ (FU_gt (by omega)) (by rw [nI_0])
      simp (disch := omega) only [F3_spells_15b, if_neg (nI_ge (show k < sx_stl w by omega) (show sx_stl w < 2 ^ 31 by omega)), Int32.add_zero, px_m3, px_a3, px_a24, px_a36, px_a42, px_m27, px_p1, px_p2, px_p3, nI_add, nI_clamp, sx_ixN, if_true, Bool.false_eq_true, if_false, gI_def, ht (s + k) (by omega), if_neg hne, Option.map_some]
  · right
    refine ⟨fun y => q y.1, ?_⟩
    rw [if_neg (fun y => q ((nI_eq (by omega) (by omega)).mp y))]
theorem cmp_eq {a b : Nat} (ha : a < 2 ^ 63) (hb : b < 2 ^ 63) : (lg_cmp (lN a) (lN b) = 0) = (a = b) := by
  have e := pk_lEQ ha hb
  have l := pk_lLT hb ha
  unfold lg_cmp
  apply propext
  by_cases h : lN a > lN b
  · have := l.mp h
    rw [if_pos h]
    exact ⟨fun z => absurd z (by decide), fun z => by omega⟩
  · rw [if_neg h]
    by_cases q : lN a = lN b
    · rw [if_pos q]
      exact ⟨fun _ => e.mp q, fun _ => rfl⟩
    · rw [if_neg q]
      exact ⟨fun z => absurd z (by decide), fun z => absurd (e.mpr z) q⟩
theorem Madd (a : Int64) (v : Int32) : F7_add a v m = some ((if v = 0 then a else 256 * a + v.toInt64), m) := by
  unfold F7_add
  split
  · rfl
  · rfl
def mm_nm (a b c d e : Int32) : Int64 :=
  let f : Int64 → Int32 → Int64 := fun v w => if w = 0 then v else 256 * v + w.toInt64
  f (f (f (f (f 0 a) b) c) d) e
theorem Mnamed (a b c d e : Int32) : F7_named a b c d e m = some (mm_nm a b c d e, m) := by
  unfold F7_named
  simp only [Madd, bind_e]
  rfl
/-- which word a packed row is -/
def mm_wv (v : Nat) : Int32 := if v = mm_pk (mm_c 0) 5 then 0 else if v = mm_pk (mm_c 1) 4 then 1 else if v = mm_pk (mm_c 2) 4 then 2 else if v = mm_pk (mm_c 3) 5 then 3 else if v = mm_pk (mm_c 4) 4 then 4 else if v = mm_pk (mm_c 5) 3 then 5 else -9
theorem MwordOf {v : Nat} (hv : v < 2 ^ 63) : F7_wordOf (lN v) m = some (mm_wv v, m) := by
  have n0 : mm_nm 99 104 105 108 100 = lN (mm_pk (mm_c 0) 5) := by decide +kernel
  have n1 : mm_nm 98 111 111 107 0 = lN (mm_pk (mm_c 1) 4) := by decide +kernel
  have n2 : mm_nm 112 108 97 110 0 = lN (mm_pk (mm_c 2) 4) := by decide +kernel
  have n3 : mm_nm 97 102 116 101 114 = lN (mm_pk (mm_c 3) 5) := by decide +kernel
  have n4 : mm_nm 116 104 105 110 0 = lN (mm_pk (mm_c 4) 4) := by decide +kernel
  have n5 : mm_nm 112 97 121 0 0 = lN (mm_pk (mm_c 5) 3) := by decide +kernel
  have b0 : mm_pk (mm_c 0) 5 < 2 ^ 63 := by decide +kernel
  have b1 : mm_pk (mm_c 1) 4 < 2 ^ 63 := by decide +kernel
  have b2 : mm_pk (mm_c 2) 4 < 2 ^ 63 := by decide +kernel
  have b3 : mm_pk (mm_c 3) 5 < 2 ^ 63 := by decide +kernel
  have b4 : mm_pk (mm_c 4) 4 < 2 ^ 63 := by decide +kernel
  have b5 : mm_pk (mm_c 5) 3 < 2 ^ 63 := by decide +kernel
  unfold F7_wordOf F7_wordOf_66 mm_wv
  simp only [Mnamed, bind_e, n0, n1, n2, n3, n4, n5, cmp_eq hv b0, cmp_eq hv b1, cmp_eq hv b2, cmp_eq hv b3, cmp_eq hv b4, cmp_eq hv b5]
  have z0 : ¬ (0 : Int32) = -9 := by decide
  have z1 : ¬ (1 : Int32) = -9 := by decide
  have z2 : ¬ (2 : Int32) = -9 := by decide
  by_cases k0 : v = mm_pk (mm_c 0) 5
  · rw [if_pos k0, if_pos k0, if_neg z0]
  · rw [if_neg k0, if_neg k0]
    by_cases k1 : v = mm_pk (mm_c 1) 4
    · rw [if_pos k1, if_pos k1, if_neg z1]
    · rw [if_neg k1, if_neg k1]
      by_cases k2 : v = mm_pk (mm_c 2) 4
      · rw [if_pos k2, if_pos k2, if_neg z2]
      · rw [if_neg k2, if_neg k2, if_pos trivial]
        by_cases k3 : v = mm_pk (mm_c 3) 5
        · rw [if_pos k3, if_pos k3]
        · rw [if_neg k3, if_neg k3]
          by_cases k4 : v = mm_pk (mm_c 4) 4
          · rw [if_pos k4, if_pos k4]
          · rw [if_neg k4, if_neg k4]
            by_cases k5 : v = mm_pk (mm_c 5) 3
            · rw [if_pos k5, if_pos k5]
            · rw [if_neg k5, if_neg k5]
end WORD
