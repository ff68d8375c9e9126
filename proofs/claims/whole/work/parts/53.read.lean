/-! reading a token on both sides -/
def AT (t : Nat → Int32) (n K : Nat) (P : Nat → Nat) (C : Nat → Int32) (E : Nat → Nat) (j : Nat) (y n2 : SQ) : Prop :=
  j ≤ K ∧ y.1 8 5 = nI j ∧ y.1 8 0 = nI n ∧ (∀ i, i ≤ K → y.1 17 i = C i ∧ y.1 18 i = nI (P i)) ∧ n2.1 0 8 = -1 ∧ n2.1 0 3 = nI n ∧ n2.1 1 = t ∧ n2.1 0 6 = nI (P j) ∧ (j < K → n2.1 0 4 = nI (E (j + 1))) ∧ TK (C j) (n2.1 0 5) (n2.1 0 7)
theorem wi_neg {v a b : Int32} (h : v < 0) (ha : 0 ≤ a) : wi v a b = 0 := by
  unfold wi
  rw [if_pos (Int32.lt_of_lt_of_le h ha)]
theorem lt0 {w : Nat} (h : w < 6) : (-1 - nI w : Int32) < 0 := by
  rcases (show w = 0 ∨ w = 1 ∨ w = 2 ∨ w = 3 ∨ w = 4 ∨ w = 5 by omega) with rfl | rfl | rfl | rfl | rfl | rfl <;> decide
section READ
variable {t : Nat → Int32} {n K : Nat} {P : Nat → Nat} {C : Nat → Int32} {E : Nat → Nat} {j : Nat} {y n2 : SQ}
theorem AT.lt (h : AT t n K P C E j y n2) (hS : Seq t n K P C E) (hc : ¬ C j = -8) : j < K := by
  rcases Nat.lt_or_ge j K with g | g
  · exact g
  · exfalso
    have e : j = K := by have := h.1; omega
    have := (hS.2.2.1 K (Nat.le_refl K)).2.2.2.1 hS.2.2.2.2
    rw [← e] at this
    exact hc this
theorem AT.next (h : AT t n K P C E j y n2) (hS : Seq t n K P C E) (hj : j < K) : ∃ z, F7_advances n2 = some ((), z) ∧ Fx n2 z ∧ AT t n K P C E (j + 1) (sI y 8 5 (nI (j + 1))) z := by
  obtain ⟨h1, h2, h3, h4, h5, h6, h7, h8, h9, h10⟩ := h
  obtain ⟨-, -, -, -, -, b6⟩ := hS.2.2.1 (j + 1) (by omega)
  obtain ⟨⟨u, z⟩, e, f1, f2, f3, f4⟩ := b6 n2 h6 h7 (h9 hj)
  refine ⟨z, e, f1, by omega, by rw [sx_row, upd_eq], by rw [sx_row, upd_ne _ _ (by omega)]; exact h3, fun i hi => ?_, ?_, ?_, ?_, f2, fun hk => f3 (hS.2.2.2.1 _ hk), f4⟩
  · rw [sx_row_ne _ _ _ (by omega), sx_row_ne _ _ _ (by omega)]
    exact h4 i hi
  · rw [f1.2.2 8 (by omega)]; exact h5
  · rw [f1.2.2 3 (by omega)]; exact h6
  · rw [f1.1 1 (by omega)]; exact h7
theorem Xseen (h : AT t n K P C E j y n2) (hS : Seq t n K P C E) (hn : n ≤ 400) : F3_seen y = some (C j, y) := by
  obtain ⟨h1, h2, h3, h4, -⟩ := h
  have hK := hS.1
  have f1 : ¬ (401 : Int32) ≤ nI j := by rw [show (401 : Int32) = nI 401 from by decide]; exact nI_ge (by omega) (by omega)
  have j4 : sx_ix (nI j) 401 = true := sx_ixN (by omega) (by omega)
  unfold F3_seen
  simp only [gI_def, h2, if_neg f1, if_pos j4, nI_clamp (show j < 2 ^ 31 by omega), (h4 j h1).1]
theorem Mwell (h : AT t n K P C E j y n2) : F7_isWell n2 = some (1, n2) := by
  unfold F7_isWell
  rw [gI_def, h.2.2.2.2.1, if_neg (by decide)]
theorem Mtake0 (h : AT t n K P C E j y n2) : F7_takes 0 n2 = some (0, sI n2 0 8 (nI (P j))) := by
  unfold F7_takes
  simp only [Mwell h, bind_e, if_neg (show ¬ (1 : Int32) = 0 from by decide), if_true, sx_let_e, gI_def, h.2.2.2.2.2.2.2.1]
theorem Mtake1 (h : AT t n K P C E j y n2) (hS : Seq t n K P C E) (hj : j < K) : ∃ z, F7_takes 1 n2 = some (n2.1 0 7, z) ∧ Fx n2 z ∧ AT t n K P C E (j + 1) (sI y 8 5 (nI (j + 1))) z := by
  obtain ⟨z, e, f1, f2⟩ := h.next hS hj
  refine ⟨z, ?_, f1, f2⟩
  unfold F7_takes
  simp only [Mwell h, bind_e, if_neg (show ¬ (1 : Int32) = 0 from by decide), sx_let_e, gI_def, e]
theorem num_both {a b : Int32} (h : AT t n K P C E j y n2) (hS : Seq t n K P C E) (hn : n ≤ 400) (ha : 0 ≤ a) :
    (∃ v z, v ≤ 100 ∧ wi (nI v) a b = 1 ∧ F3_readNumber a b y = some (nI v, sI y 8 5 (nI (j + 1))) ∧ F7_number a b n2 = some (nI v, z) ∧ Fx n2 z ∧ AT t n K P C E (j + 1) (sI y 8 5 (nI (j + 1))) z) ∨
    (F3_readNumber a b y = some (-1, y) ∧ F7_number a b n2 = some (0, sI n2 0 8 (nI (P j)))) := by
  have hx := Xseen h hS hn
  have hr : F3_readNumber a b y = if wi (C j) a b = 0 then some (-1, y) else some (C j, sI y 8 5 (nI (j + 1))) := by
    unfold F3_readNumber
    simp only [hx, bind_e, sx_let_e, Xin, gI_def, h.2.1, px_p1]
  have hz : F7_number a b n2 = if n2.1 0 5 = 2 then (if wi (n2.1 0 7) a b = 0 then F7_takes 0 n2 else F7_takes 1 n2) else F7_takes 0 n2 := by
    have e : ∀ s, F7_number_26 s n2 = F7_takes s n2 := fun s => by
      unfold F7_number_26
      cases F7_takes s n2 <;> rfl
    unfold F7_number F7_number_25
    simp only [gI_def, Min, bind_e, e]
  have neg : C j < 0 → ¬ n2.1 0 5 = 2 → F3_readNumber a b y = some (-1, y) ∧ F7_number a b n2 = some (0, sI n2 0 8 (nI (P j))) := fun g1 g2 => by
    rw [hr, hz, if_pos (wi_neg g1 ha), if_neg g2, Mtake0 h]
    exact ⟨rfl, rfl⟩
  rcases h.2.2.2.2.2.2.2.2.2 with ⟨c1, c2⟩ | ⟨c1, c2⟩ | ⟨c1, c2⟩ | ⟨w, c0, c1, c2, c3⟩ | ⟨v, c0, c1, c2, c3⟩
  · exact Or.inr (neg (by rw [c1]; decide) (by rw [c2]; decide))
  · exact Or.inr (neg (by rw [c1]; decide) (by rw [c2]; decide))
  · exact Or.inr (neg (by rw [c1]; decide) (by rw [c2]; decide))
  · exact Or.inr (neg (by rw [c1]; exact lt0 c0) (by rw [c2]; decide))
  · rw [hr, hz, c1, c2, c3, if_pos rfl]
    rcases wi01 (nI v) a b with q | q
    · rw [if_pos q, if_pos q, Mtake0 h]
      exact Or.inr ⟨rfl, rfl⟩
    · have hj := h.lt hS (by rw [c1]; exact fun z => nI_pos (show v < 2 ^ 31 by omega) (by rw [z]; decide))
      obtain ⟨z, e, f1, f2⟩ := Mtake1 h hS hj
      have q0 : ¬ wi (nI v) a b = 0 := by rw [q]; decide
      rw [if_neg q0, if_neg q0, e, c3]
      exact Or.inl ⟨v, z, c0, q, rfl, rfl, f1, f2⟩
/-- a word, or none -/
theorem word_both {w : Nat} (hw : w < 6) (h : AT t n K P C E j y n2) (hS : Seq t n K P C E) (hn : n ≤ 400) :
    (∃ z, F3_readWord (-1 - nI w) y = some (1, sI y 8 5 (nI (j + 1))) ∧ F7_takesWord (nI w) n2 = some (1, z) ∧ Fx n2 z ∧ AT t n K P C E (j + 1) (sI y 8 5 (nI (j + 1))) z) ∨
    (F3_readWord (-1 - nI w) y = some (0, y) ∧ F7_takesWord (nI w) n2 = some (0, n2)) := by
  have hx := Xseen h hS hn
  have hr : F3_readWord (-1 - nI w) y = if C j = -1 - nI w then some (1, sI y 8 5 (nI (j + 1))) else some (0, y) := by
    unfold F3_readWord
    simp only [hx, bind_e, sx_let_e, gI_def, h.2.1, px_p1]
  have b0 : sx_bt (0 : Int32) = true := by decide
  have b1 : sx_bt (1 : Int32) = true := by decide
  have n0 : ¬ (1 : Int32) = 0 := by decide
  have no : ¬ C j = -1 - nI w → ¬ (n2.1 0 5 = 1 ∧ n2.1 0 7 = nI w) → F3_readWord (-1 - nI w) y = some (0, y) ∧ F7_takesWord (nI w) n2 = some (0, n2) := fun g1 g2 => by
    rw [hr, if_neg g1]
    refine ⟨rfl, ?_⟩
    unfold F7_takesWord F7_takesWord_27 F7_takesWord_28 F7_takesWord_37
    simp only [Mwell h, bind_e, if_neg n0, gI_def, if_true, if_pos b0]
    by_cases q : n2.1 0 5 = 1
    · rw [if_pos q, if_neg (fun z => g2 ⟨q, z⟩)]
    · rw [if_neg q]
  have wn : ∀ a : Nat, a < 6 → ∀ c : Int32, c = -8 ∨ c = -7 ∨ c = -9 → ¬ c = -1 - nI a := fun a ha c hc => by
    rcases (show a = 0 ∨ a = 1 ∨ a = 2 ∨ a = 3 ∨ a = 4 ∨ a = 5 by omega) with rfl | rfl | rfl | rfl | rfl | rfl <;> rcases hc with rfl | rfl | rfl <;> decide
  rcases h.2.2.2.2.2.2.2.2.2 with ⟨c1, c2⟩ | ⟨c1, c2⟩ | ⟨c1, c2⟩ | ⟨v, c0, c1, c2, c3⟩ | ⟨v, c0, c1, c2, c3⟩
  · exact Or.inr (no (wn w hw _ (Or.inl c1)) (fun z => by rw [c2] at z; exact absurd z.1 (by decide)))
  · exact Or.inr (no (wn w hw _ (Or.inr (Or.inl c1))) (fun z => by rw [c2] at z; exact absurd z.1 (by decide)))
  · exact Or.inr (no (wn w hw _ (Or.inr (Or.inr c1))) (fun z => by rw [c2] at z; exact absurd z.1 (by decide)))
  · by_cases q : v = w
    · subst q
      have hj := h.lt hS (by rw [c1]; exact fun z => wn v c0 _ (Or.inl rfl) z.symm)
      obtain ⟨z, e, f1, f2⟩ := h.next hS hj
      refine Or.inl ⟨z, by rw [hr, if_pos c1], ?_, f1, f2⟩
      unfold F7_takesWord F7_takesWord_27 F7_takesWord_28 F7_takesWord_37
      simp only [Mwell h, bind_e, if_neg n0, gI_def, if_pos c2, if_pos c3, e, if_pos b1]
    · refine Or.inr (no ?_ (fun z => ?_))
      · rw [c1]
        intro z
        have : ∀ a b : Fin 6, ((-1 : Int32) - nI a.val = -1 - nI b.val) → a = b := by decide +kernel
        have := this ⟨v, c0⟩ ⟨w, hw⟩ z
        exact q (congrArg Fin.val this)
      · rw [c3] at z
        exact q ((nI_eq (by omega) (by omega)).mp z.2)
  · refine Or.inr (no ?_ (fun z => by rw [c2] at z; exact absurd z.1 (by decide)))
    rw [c1]
    intro z
    have g := lt0 hw
    rw [← z] at g
    exact nI_pos (by omega) g
end READ
