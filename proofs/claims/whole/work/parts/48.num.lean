/-! numbers -/
def mm_dN (t : Nat → Int32) (s : Nat) : Nat → Nat
  | 0 => 0
  | k + 1 => 10 * mm_dN t s k + ((t (s + k)).toNatClampNeg - 48)
def mm_cap (t : Nat → Int32) (s : Nat) : Nat → Nat
  | 0 => 0
  | k + 1 => if mm_cap t s k ≤ 100 then 10 * mm_cap t s k + ((t (s + k)).toNatClampNeg - 48) else mm_cap t s k
/-- what the class makes of the digits s .. e - 1 -/
def mm_cN (t : Nat → Int32) (s e : Nat) : Int32 := if 3 < e - s then -9 else if t s = 48 ∧ ¬ e - s ≤ 1 then -9 else if mm_dN t s (e - s) ≤ 100 then nI (mm_dN t s (e - s)) else -9
theorem cap_dN (t : Nat → Int32) (s : Nat) : ∀ k, (mm_cap t s k ≤ 100 → mm_cap t s k = mm_dN t s k) ∧ (100 < mm_cap t s k → 100 < mm_dN t s k)
  | 0 => ⟨fun _ => rfl, fun h => by rw [mm_cap] at h; omega⟩
  | k + 1 => by
    obtain ⟨h1, h2⟩ := cap_dN t s k
    rw [mm_cap, mm_dN]
    by_cases q : mm_cap t s k ≤ 100
    · rw [if_pos q, h1 q]
      exact ⟨fun _ => rfl, fun h => h⟩
    · rw [if_neg q]
      have := h2 (by omega)
      exact ⟨fun h => by omega, fun _ => by omega⟩
theorem dN_mono (t : Nat → Int32) (s a : Nat) : ∀ d, mm_dN t s a ≤ mm_dN t s (a + d)
  | 0 => Nat.le_refl _
  | d + 1 => by
    have := dN_mono t s a d
    rw [show a + (d + 1) = (a + d) + 1 by omega, mm_dN]
    omega
theorem dN_big {t : Nat → Int32} {s k : Nat} (h : 49 ≤ (t s).toNatClampNeg) (hk : 4 ≤ k) : 100 < mm_dN t s k := by
  have e : mm_dN t s 4 = 10 * (10 * (10 * (10 * 0 + ((t (s + 0)).toNatClampNeg - 48)) + ((t (s + 1)).toNatClampNeg - 48)) + ((t (s + 2)).toNatClampNeg - 48)) + ((t (s + 3)).toNatClampNeg - 48) := rfl
  rw [Nat.add_zero] at e
  have m := dN_mono t s 4 (k - 4)
  rw [show 4 + (k - 4) = k by omega] at m
  omega
theorem cap_le {t : Nat → Int32} {s : Nat} : ∀ k, (∀ i, i < k → (t (s + i)).toNatClampNeg ≤ 57) → mm_cap t s k ≤ 1009
  | 0, _ => by rw [mm_cap]; omega
  | k + 1, h => by
    have h1 := cap_le (t := t) (s := s) k (fun i hi => h i (by omega))
    have h2 := h k (by omega)
    rw [mm_cap]
    split <;> omega
theorem dig_of {b : Int32} (h : isD b) : ∃ j, 48 ≤ j ∧ j ≤ 57 ∧ b = nI j ∧ b.toNatClampNeg = j := by
  obtain ⟨j, h1, h2, h3⟩ := (isD_iff b).mp h
  exact ⟨j, h1, h2, h3, by rw [h3]; exact nI_clamp (by omega)⟩
section NUM
variable {x m : SQ}
/-- only next, token, place and value of the model changed -/
def Fx (m n : SQ) : Prop := (∀ o, o ≠ 0 → n.1 o = m.1 o) ∧ n.2 = m.2 ∧ (∀ j, ¬ (4 ≤ j ∧ j ≤ 7) → n.1 0 j = m.1 0 j)
theorem fx_rf (m : SQ) : Fx m m := ⟨fun _ _ => rfl, rfl, fun _ _ => rfl⟩
theorem fx_s {n : SQ} (h : Fx m n) {k : Nat} {v : Int32} (hk : 4 ≤ k ∧ k ≤ 7) : Fx m (sI n 0 k v) := by
  refine ⟨fun o ho => by rw [sx_row_ne _ _ _ ho]; exact h.1 o ho, h.2.1, fun j hj => ?_⟩
  rw [sx_row, upd_ne _ _ (by omega)]
  exact h.2.2 j hj
theorem fx_tr {n p : SQ} (h : Fx m n) (g : Fx n p) : Fx m p := ⟨fun o ho => (g.1 o ho).trans (h.1 o ho), g.2.1.trans h.2.1, fun j hj => (g.2.2 j hj).trans (h.2.2 j hj)⟩
theorem px_10 (a : Nat) : (10 : Int32) * nI a = nI (10 * a) := by rw [px_l10, pk_mul]
theorem px_48 {a : Nat} (h : 48 ≤ a) : nI a - (48 : Int32) = nI (a - 48) := by
  rw [show (48 : Int32) = nI 48 from by decide]
  exact pk_sub h
theorem dN_lt {t : Nat → Int32} {s : Nat} : ∀ k, (∀ i, i < k → (t (s + i)).toNatClampNeg ≤ 57) → mm_dN t s k < 10 ^ k
  | 0, _ => by rw [mm_dN]; omega
  | k + 1, h => by
    have h1 := dN_lt (t := t) (s := s) k (fun i hi => h i (by omega))
    have h2 := h k (by omega)
    rw [mm_dN, Nat.pow_succ]
    omega
theorem Xnum {n s e : Nat} {t : Nat → Int32} (hn : n ≤ 400) (ht : ∀ i, i < n → x.1 9 i = t i) (hs : s < e) (he : e ≤ n) (h1 : ∀ i, s ≤ i → i < e → isD (t i)) : F3_numberOf (nI s) (nI e) x = some (mm_cN t s e, x) := by
  have sub : nI e - nI s = nI (e - s) := pk_sub (by omega)
  have h33 : e - s ≤ 3 → F3_numberOf_33 (nI e) 0 (nI s) x = some (if mm_dN t s (e - s) ≤ 100 then nI (mm_dN t s (e - s)) else -9, x) := by
    intro hl
    have hb : ∀ k, k ≤ e - s → mm_dN t s k < 1000 := by
      intro k hk
      have h2 := dN_lt (t := t) (s := s) k (fun i hi => by obtain ⟨j, a, b, c, d⟩ := dig_of (h1 (s + i) (by omega) (by omega)); omega)
      have h3 : 10 ^ k ≤ 10 ^ 3 := Nat.pow_le_pow_right (by omega) (by omega)
      omega
    unfold F3_numberOf_33
    refine Ev.up (S := fun k => (nI (mm_dN t s k), nI (s + k), x)) (N := e - s) (fun k hk => ?_) ?_ (FU_gt (by omega)) (by rw [mm_dN, nI_0, Nat.add_zero])
    · obtain ⟨j, a, b, c, d⟩ := dig_of (h1 (s + k) (by omega) (by omega))
      simp (disch := omega) only [F3_numberOf_33b, gI_def, if_neg (nI_ge (show s + k < e by omega) (show e < 2 ^ 31 by omega)), Int32.add_zero, px_m3, px_a3, px_a24, px_a36, px_a42, px_m27, px_p1, px_p2, px_p3, nI_add, nI_clamp, sx_ixN, if_true, Bool.false_eq_true, if_false, ht (s + k) (by omega), c, px_10, px_48, sx_let_e, mm_dN]
      rw [show 10 * mm_dN t s k + j - 48 = 10 * mm_dN t s k + (j - 48) by omega, show s + k + 1 = s + (k + 1) by omega]
    · have e1 : nI e ≤ nI (s + (e - s)) := nI_le (by omega) (by omega)
      have hb2 := hb (e - s) (Nat.le_refl _)
      simp only [F3_numberOf_33b, if_pos e1]
      by_cases q : mm_dN t s (e - s) ≤ 100
      · have q2 : nI (mm_dN t s (e - s)) ≤ (100 : Int32) := by rw [px_l100]; exact nI_le q (by omega)
        rw [if_pos q, if_pos q2]
        rfl
      · have q2 : ¬ nI (mm_dN t s (e - s)) ≤ (100 : Int32) := by rw [px_l100]; exact nI_ge (by omega) (by omega)
        rw [if_neg q, if_neg q2]
        rfl
  unfold F3_numberOf F3_numberOf_28 F3_numberOf_25 mm_cN
  have i4 : sx_ix (nI s) 400 = true := sx_ixN (by omega) (by omega)
  simp only [sub, if_pos i4, gI_def, nI_clamp (show s < 2 ^ 31 by omega), ht s (by omega)]
  by_cases q : 3 < e - s
  · have q2 : (3 : Int32) < nI (e - s) := by rw [show (3 : Int32) = nI 3 from by decide]; exact nI_lt q (by omega)
    rw [if_pos q, if_pos q2]
  · have q2 : ¬ (3 : Int32) < nI (e - s) := by rw [show (3 : Int32) = nI 3 from by decide]; exact nI_nlt (by omega) (by omega)
    rw [if_neg q, if_neg q2]
    by_cases z : t s = 48
    · rw [if_pos z]
      by_cases w : e - s ≤ 1
      · have w2 : nI (e - s) ≤ (1 : Int32) := by rw [show (1 : Int32) = nI 1 from by decide]; exact nI_le w (by omega)
        rw [if_pos w2, if_neg (fun a => a.2 w), h33 (by omega)]
      · have w2 : ¬ nI (e - s) ≤ (1 : Int32) := by rw [show (1 : Int32) = nI 1 from by decide]; exact nI_ge (by omega) (by omega)
        rw [if_neg w2, if_pos ⟨z, w⟩]
    · rw [if_neg z, if_neg (fun a => z a.1), h33 (by omega)]
/-- the model's digits -/
theorem M175 {n s e : Nat} {t : Nat → Int32} (hx : m.1 0 3 = nI n) (hn : n ≤ 400) (ht : m.1 1 = t) (hs : s < e) (he : e ≤ n) (h1 : ∀ i, s ≤ i → i < e → isD (t i)) (h2 : ¬ isD (mm_by t n e)) (e4 : m.1 0 4 = nI s) (e6 : m.1 0 6 = nI s) (e7 : m.1 0 7 = 0) : Ev (F7_advances_175 (t s) m) (fun z => Fx m z.2 ∧ z.2.1 0 4 = nI e ∧ z.2.1 0 6 = nI s ∧ ((mm_cN t s e = -9 ∧ z.2.1 0 5 = 4) ∨ ∃ v, v ≤ 100 ∧ mm_cN t s e = nI v ∧ z.2.1 0 5 = 2 ∧ z.2.1 0 7 = nI v)) := by
  have hcap : ∀ k, k ≤ e - s → mm_cap t s k ≤ 1009 := fun k hk => cap_le k (fun i hi => by obtain ⟨j, a, b, c, d⟩ := dig_of (h1 (s + i) (by omega) (by omega)); omega)
  unfold F7_advances_175
  refine Ev.loop (fun k y => Fx m y ∧ y.1 0 4 = nI (s + k) ∧ y.1 0 6 = nI s ∧ y.1 0 7 = nI (mm_cap t s k)) (e - s) (fun k y hk hI => ?_) (fun y hI => ?_) ⟨fx_rf m, e4, e6, by rw [e7, mm_cap, nI_0]⟩ (FU_gt (by omega))
  · obtain ⟨hF, y4, y6, y7⟩ := hI
    have y3 : y.1 0 3 = nI n := by rw [hF.2.2 3 (by omega), hx]
    have y1 : y.1 1 = t := by rw [hF.1 1 (by omega), ht]
    have hb := MbyteAt (m := y) (p := s + k) y3 hn (by omega)
    have hd := h1 (s + k) (by omega) (by omega)
    rw [y1, by_lt (show s + k < n by omega)] at hb
    have hw : wi (t (s + k)) 48 57 = 1 := hd
    obtain ⟨j, a, b, c, d⟩ := dig_of hd
    have hc := hcap k (by omega)
    simp only [F7_advances_175b, F7_advances_229, gI_def, y4, hb, bind_e, Min, hw, show ¬ ((1 : Int32) = 0) from by decide, if_false, y7]
    by_cases q : mm_cap t s k ≤ 100
    · have q2 : nI (mm_cap t s k) ≤ (100 : Int32) := by rw [px_l100]; exact nI_le q (by omega)
      have g4 : ∀ v, (sI y 0 7 v).1 0 4 = nI (s + k) := fun v => by rw [sx_row, upd_ne _ _ (by omega), y4]
      rw [if_pos q2]
      simp (disch := omega) only [sx_let_e, g4, px_p1, c, px_10, px_48, nI_add]
      refine Ev.ret (Or.inl ⟨_, rfl, fx_s (fx_s hF (by omega)) (by omega), ?_, ?_, ?_⟩)
      · rw [sx_row, upd_eq, show s + k + 1 = s + (k + 1) by omega]
      · rw [sx_row, upd_ne _ _ (by omega), sx_row, upd_ne _ _ (by omega), y6]
      · rw [sx_row, upd_ne _ _ (by omega), sx_row, upd_eq, mm_cap, if_pos q, d, show 10 * mm_cap t s k + j - 48 = 10 * mm_cap t s k + (j - 48) by omega]
    · have q2 : ¬ nI (mm_cap t s k) ≤ (100 : Int32) := by rw [px_l100]; exact nI_ge (by omega) (by omega)
      have g4 : ∀ v, (sI y 0 7 v).1 0 4 = nI (s + k) := fun v => by rw [sx_row, upd_ne _ _ (by omega), y4]
      rw [if_neg q2]
      simp only [sx_let_e, g4, px_p1]
      refine Ev.ret (Or.inl ⟨_, rfl, fx_s (fx_s hF (by omega)) (by omega), ?_, ?_, ?_⟩)
      · rw [sx_row, upd_eq, show s + k + 1 = s + (k + 1) by omega]
      · rw [sx_row, upd_ne _ _ (by omega), sx_row, upd_ne _ _ (by omega), y6]
      · rw [sx_row, upd_ne _ _ (by omega), sx_row, upd_eq, mm_cap, if_neg q]
  · obtain ⟨hF, y4, y6, y7⟩ := hI
    rw [show s + (e - s) = e by omega] at y4
    have y3 : y.1 0 3 = nI n := by rw [hF.2.2 3 (by omega), hx]
    have y1 : y.1 1 = t := by rw [hF.1 1 (by omega), ht]
    have hb := MbyteAt (m := y) (p := e) y3 hn (by omega)
    rw [y1] at hb
    have hc := hcap (e - s) (Nat.le_refl _)
    obtain ⟨c1, c2⟩ := cap_dN t s (e - s)
    have sub : nI e - nI s = nI (e - s) := pk_sub (by omega)
    have bad : mm_cN t s e = -9 → ∃ t2, (some (Sum.inr ((), sI y 0 5 4)) : Option (SQ ⊕ (Unit × SQ))) = some t2 ∧ ∃ z, t2 = .inr z ∧ Fx m z.2 ∧ z.2.1 0 4 = nI e ∧ z.2.1 0 6 = nI s ∧ ((mm_cN t s e = -9 ∧ z.2.1 0 5 = 4) ∨ ∃ v, v ≤ 100 ∧ mm_cN t s e = nI v ∧ z.2.1 0 5 = 2 ∧ z.2.1 0 7 = nI v) := fun h => ⟨_, rfl, _, rfl, fx_s hF (by omega), by rw [sx_row, upd_ne _ _ (by omega), y4], by rw [sx_row, upd_ne _ _ (by omega), y6], Or.inl ⟨h, by rw [sx_row, upd_eq]⟩⟩
    have good : ∀ v, v ≤ 100 → mm_cN t s e = nI v → mm_cap t s (e - s) = v → ∃ t2, (some (Sum.inr ((), sI y 0 5 2)) : Option (SQ ⊕ (Unit × SQ))) = some t2 ∧ ∃ z, t2 = .inr z ∧ Fx m z.2 ∧ z.2.1 0 4 = nI e ∧ z.2.1 0 6 = nI s ∧ ((mm_cN t s e = -9 ∧ z.2.1 0 5 = 4) ∨ ∃ v, v ≤ 100 ∧ mm_cN t s e = nI v ∧ z.2.1 0 5 = 2 ∧ z.2.1 0 7 = nI v) := fun v hv h h3 => ⟨_, rfl, _, rfl, fx_s hF (by omega), by rw [sx_row, upd_ne _ _ (by omega), y4], by rw [sx_row, upd_ne _ _ (by omega), y6], Or.inr ⟨v, hv, h, by rw [sx_row, upd_eq], by rw [sx_row, upd_ne _ _ (by omega), y7, h3]⟩⟩
    simp only [F7_advances_175b, F7_advances_274, F7_advances_278, F7_advances_279, gI_def, y4, hb, bind_e, Min, isD_n h2, if_true, y6, y7, sub, sx_let_e, Option.map_some]
    by_cases q : mm_cap t s (e - s) ≤ 100
    · have q2 : ¬ (100 : Int32) < nI (mm_cap t s (e - s)) := by rw [px_l100]; exact nI_nlt q (by omega)
      rw [if_neg q2]
      have dq := c1 q
      have l3 : ¬ t s = 48 → ¬ 3 < e - s := fun z w => by
        obtain ⟨j, a, b, c, d⟩ := dig_of (h1 s (Nat.le_refl s) hs)
        have hj : 49 ≤ j := by
          rcases Nat.lt_or_ge j 49 with g | g
          · exact absurd (by rw [c, show j = 48 by omega]; decide) z
          · exact g
        have := dN_big (t := t) (s := s) (k := e - s) (by omega) (by omega)
        omega
      by_cases z : t s = 48
      · rw [if_pos z]
        by_cases w : e - s ≤ 1
        · have w2 : nI (e - s) ≤ (1 : Int32) := by rw [show (1 : Int32) = nI 1 from by decide]; exact nI_le w (by omega)
          rw [if_pos w2]
          refine good _ q ?_ rfl
          unfold mm_cN
          rw [if_neg (by omega), if_neg (fun a => a.2 w), ← dq, if_pos q]
        · have w2 : ¬ nI (e - s) ≤ (1 : Int32) := by rw [show (1 : Int32) = nI 1 from by decide]; exact nI_ge (by omega) (by omega)
          rw [if_neg w2]
          refine bad ?_
          unfold mm_cN
          split
          · rfl
          · rw [if_pos ⟨z, w⟩]
      · rw [if_neg z]
        refine good _ q ?_ rfl
        unfold mm_cN
        rw [if_neg (l3 z), if_neg (fun a => z a.1), ← dq, if_pos q]
    · have q2 : (100 : Int32) < nI (mm_cap t s (e - s)) := by rw [px_l100]; exact nI_lt (by omega) (by omega)
      rw [if_pos q2]
      refine bad ?_
      have dq := c2 (by omega)
      unfold mm_cN
      split
      · rfl
      · split
        · rfl
        · rw [if_neg (by omega)]
end NUM
