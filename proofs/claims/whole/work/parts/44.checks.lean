/-! checks -/
theorem Ev2.loopB {σ τ ρ π : Type} {b1 : σ → Option (σ ⊕ ρ)} {b2 : τ → Option (τ ⊕ π)} {P : ρ → π → Prop} (I : Nat → σ → τ → Prop) (N : Nat) (hs : ∀ k s t, k < N → I k s t → Ev2 (b1 s) (b2 t) (fun x y => (∃ s2 t2, x = .inl s2 ∧ y = .inl t2 ∧ I (k + 1) s2 t2) ∨ ∃ u v, x = .inr u ∧ y = .inr v ∧ P u v)) (he : ∀ s t, I N s t → Ev2 (b1 s) (b2 t) (fun x y => ∃ u v, x = .inr u ∧ y = .inr v ∧ P u v)) {s : σ} {t : τ} (h0 : I 0 s t) (hN : N < FU) : Ev2 (sx_loop b1 FU s) (sx_loop b2 FU t) P := by
  have key : ∀ (n k : Nat) (s : σ) (t : τ), I k s t → k ≤ N → N < k + n → Ev2 (sx_loop b1 n s) (sx_loop b2 n t) P := by
    intro n
    induction n with
    | zero => intro k s t _ h1 h2; omega
    | succ n ih =>
      intro k s t hI h1 h2
      show Ev2 ((b1 s).bind _) ((b2 t).bind _) P
      by_cases hk : k = N
      · subst hk
        obtain ⟨x, y, e1, e2, u, v, rfl, rfl, hp⟩ := he s t hI
        rw [e1, e2]
        exact ⟨u, v, rfl, rfl, hp⟩
      · obtain ⟨x, y, e1, e2, q⟩ := hs k s t (by omega) hI
        rw [e1, e2]
        rcases q with ⟨s2, t2, rfl, rfl, hi⟩ | ⟨u, v, rfl, rfl, hp⟩
        · exact ih (k + 1) s2 t2 hi (by omega) (by omega)
        · exact ⟨u, v, rfl, rfl, hp⟩
  exact key FU 0 s t h0 (Nat.zero_le _) (by omega)
/-- what a child gives the table -/
def mm_w (T U S : Nat → Int32) (c : Nat) : Int32 := if mm_choice T 0 (U 0) S c (S 0) = -9 then 0 else mm_pages T c (mm_choice T 0 (U 0) S c (S 0)).toNatClampNeg * mm_given T 0 (mm_choice T 0 (U 0) S c (S 0)).toNatClampNeg (S 0)
def mm_mx (w : Nat → Int32) : Nat → Int32
  | 0 => 0
  | c + 1 => if mm_mx w c < w c then w c else mm_mx w c
def mm_ok (w : Nat → Int32) (a v : Int32) : Nat → Int32
  | 0 => 1
  | c + 1 => if mm_ok w a v c = 0 then 0 else if a * v < (10 - a) * w c then 0 else 1
theorem w_in {T U S : Nat → Int32} (hT : okT T) {c : Nat} (hc : c < mm_nc T) : inN (mm_w T U S c) 0 486 := by
  unfold mm_w
  rcases choice_in hT 0 (U 0) S c (S 0) with e | ⟨k, hk, e⟩
  · rw [e, if_pos rfl]
    exact in_z _
  · have hk4 : k < 4 := by have := hT.ns.2; omega
    rw [e, if_neg (nI_m9 hk4), nI_clamp (by omega)]
    exact ((pages_in hT hc hk).mul (given_in hT hk)).le (by omega)
theorem mx_in {w : Nat → Int32} : ∀ n, (∀ c, c < n → inN (w c) 0 486) → inN (mm_mx w n) 0 486
  | 0, _ => in_z _
  | n + 1, h => by
    rw [mm_mx]
    split
    · exact h n (by omega)
    · exact mx_in n (fun c hc => h c (by omega))
theorem ok_mx {w : Nat → Int32} {i p : Nat} (hi : i ≤ 10) (hp : p ≤ 99) : ∀ n, (∀ c, c < n → inN (w c) 0 486) → (mm_ok w (nI i) (nI p) n = 0 ∧ ¬ (10 - nI i) * mm_mx w n ≤ nI i * nI p) ∨ (mm_ok w (nI i) (nI p) n = 1 ∧ (10 - nI i) * mm_mx w n ≤ nI i * nI p)
  | 0, _ => by
    refine Or.inr ⟨rfl, ?_⟩
    rw [mm_mx, Int32.mul_zero, pk_mul]
    have : i * p ≤ 10 * 99 := Nat.mul_le_mul hi hp
    exact nI_pos' (by omega)
  | n + 1, h => by
    have ih := ok_mx (w := w) (i := i) (p := p) hi hp n (fun c hc => h c (by omega))
    obtain ⟨x, -, hx, ex⟩ := mx_in (w := w) n (fun c hc => h c (by omega))
    obtain ⟨y, -, hy, ey⟩ := h n (by omega)
    have b1 : i * p ≤ 10 * 99 := Nat.mul_le_mul hi hp
    have b2 : (10 - i) * x ≤ 10 * 486 := Nat.mul_le_mul (by omega) hx
    have b3 : (10 - i) * y ≤ 10 * 486 := Nat.mul_le_mul (by omega) hy
    have e10 : (10 : Int32) - nI i = nI (10 - i) := by rw [px_l10, pk_sub hi]
    rw [mm_ok, mm_mx]
    rw [e10, ex, pk_mul, pk_mul] at ih
    rw [e10, ex, ey]
    have mono : x < y → (10 - i) * x ≤ (10 - i) * y := fun q => Nat.mul_le_mul_left _ (by omega)
    have mono2 : ¬ x < y → (10 - i) * y ≤ (10 - i) * x := fun q => Nat.mul_le_mul_left _ (by omega)
    have le_iff : ∀ a b : Nat, a < 2 ^ 31 → b < 2 ^ 31 → (nI a ≤ nI b ↔ a ≤ b) := fun a b ha hb => ⟨fun z => Nat.le_of_not_lt (fun q => nI_ge q (by omega) z), fun z => nI_le z (by omega)⟩
    rw [le_iff _ _ (by omega) (by omega)] at ih
    rw [pk_mul, pk_mul]
    have e2 : (if nI x < nI y then nI y else nI x) = nI (if x < y then y else x) := by
      by_cases q : x < y
      · rw [if_pos q, if_pos (nI_lt q (by omega))]
      · rw [if_neg q, if_neg (nI_nlt (by omega) (by omega))]
    rw [e2, pk_mul]
    have b4 : (10 - i) * (if x < y then y else x) ≤ 10 * 486 := Nat.mul_le_mul (by omega) (by split <;> omega)
    rw [le_iff _ _ (by omega) (by omega)]
    by_cases q : x < y
    · have := mono q
      rw [if_pos q] at b4 ⊢
      rcases ih with ⟨i1, i2⟩ | ⟨i1, i2⟩
      · rw [if_pos i1]
        exact Or.inl ⟨rfl, by omega⟩
      · rw [if_neg (by rw [i1]; decide)]
        by_cases q2 : i * p < (10 - i) * y
        · rw [if_pos (nI_lt q2 (by omega))]; exact Or.inl ⟨rfl, by omega⟩
        · rw [if_neg (nI_nlt (by omega) (by omega))]; exact Or.inr ⟨rfl, by omega⟩
    · have := mono2 q
      rw [if_neg q] at b4 ⊢
      rcases ih with ⟨i1, i2⟩ | ⟨i1, i2⟩
      · rw [if_pos i1]
        exact Or.inl ⟨rfl, by omega⟩
      · rw [if_neg (by rw [i1]; decide), if_neg (nI_nlt (by omega) (by omega))]
        exact Or.inr ⟨rfl, i2⟩
section CHECKS
variable {x m : SQ}
theorem Mchecks {i : Nat} {v : Int32} (hT : okT (m.1 2)) (h16 : m.1 0 16 = 0) : F7_checks_30 v (nI i) 1 0 m = some (if mm_ok (mm_w (m.1 2) (m.1 3) (m.1 4)) (nI i) v (mm_nc (m.1 2)) = 0 then .inl (nI (i + 1), m) else .inr (nI i, m)) := by
  obtain ⟨e40, h40⟩ := hT.nc
  obtain ⟨e41, h41⟩ := hT.ns
  unfold F7_checks_30
  refine Ev.up (S := fun c => (mm_ok (mm_w (m.1 2) (m.1 3) (m.1 4)) (nI i) v c, nI c, m)) (N := mm_nc (m.1 2)) (fun c hc => ?_) ?_ (FU_gt (by omega)) (by rw [nI_0, mm_ok])
  · have hm := Mchoice (m := m) (r := 4) (c := c) (day := m.1 4 0) (by omega) hT
    rw [h16] at hm
    have q0 : ∀ (w : Int32), F7_checks_92 v (nI i) (mm_ok (mm_w (m.1 2) (m.1 3) (m.1 4)) (nI i) v c) (nI c) w m = some (.inl ((if mm_ok (mm_w (m.1 2) (m.1 3) (m.1 4)) (nI i) v c = 0 then 0 else if nI i * v < (10 - nI i) * w then 0 else 1), nI (c + 1), m)) := by
      intro w
      unfold F7_checks_92 F7_checks_115 F7_checks_116
      simp only [sx_let_e, px_p1]
      split
      · rfl
      · split
        · rfl
        · rfl
    simp only [F7_checks_30b, gI_def, e40, if_neg (nI_ge hc (show mm_nc (m.1 2) < 2 ^ 31 by omega)), hm, bind_e, sx_let_e, mm_ok]
    rcases choice_in hT 0 (m.1 3 0) (m.1 4) c (m.1 4 0) with e | ⟨k, hk, e⟩
    · have ew : mm_w (m.1 2) (m.1 3) (m.1 4) c = 0 := by unfold mm_w; rw [e, if_pos rfl]
      rw [e, if_pos rfl, q0, ew]
    · have hk4 : k < 4 := by omega
      have ew : mm_w (m.1 2) (m.1 3) (m.1 4) c = mm_pages (m.1 2) c k * mm_given (m.1 2) 0 k (m.1 4 0) := by
        unfold mm_w
        rw [e, if_neg (nI_m9 hk4), nI_clamp (by omega)]
      have hh := (hT.2.2.2.2.2.2.2 k hk).1.ne0 (by omega) (by omega)
      have m1 := Mpages (m := m) (c := c) (k := k) (by omega) (by omega) hh
      have m2 := Mgiven (m := m) (k := k) (day := m.1 4 0) (by omega) hT.2.2.2.2.1
      rw [h16] at m2
      rw [e, if_neg (nI_m9 hk4)]
      simp only [m1, m2, bind_e, gI_def, q0, ew]
  · simp only [F7_checks_30b, gI_def, e40, if_pos (nI_le (Nat.le_refl (mm_nc (m.1 2))) (show mm_nc (m.1 2) < 2 ^ 31 by omega)), sx_let_e, px_p1, Option.map_some]
    split
    · rfl
    · rfl
theorem checks_bo (h : RR x m) (v : Int32) : Bo (F6_checks v x) (F7_checks v m) := by
  unfold F7_checks
  simp only [sx_let_e]
  have h := h.t0
  generalize sI m 0 0 0 = m at h ⊢
  have hT := h.1.1
  have hX := h.1.2
  have hR := h.2.2.1.1
  have h16 := h.2.2.2.2.2.2.2.2
  obtain ⟨e40, h40⟩ := hT.nc
  obtain ⟨e41, h41⟩ := hT.ns
  have ex : x.1 1 0 = nI (mm_nc (m.1 2)) := hX.1.trans e40
  unfold F6_checks
  simp only [Xin, Min, bind_e]
  rcases wi_lit v (a := 0) (b := 99) (by omega) (by omega) 0 99 rfl rfl with ⟨p, -, hp, rfl, e⟩ | ⟨e, -⟩
  · rw [e]
    simp only [show ¬ ((1 : Int32) = 0) from by decide, if_false]
    obtain ⟨w, hw⟩ : ∃ w, w = mm_w (m.1 2) (m.1 3) (m.1 4) := ⟨_, rfl⟩
    have hin : ∀ c, c < mm_nc (m.1 2) → inN (w c) 0 486 := fun c hc => by rw [hw]; exact w_in hT hc
    have C1 : F6_checks_16 (nI p) 0 0 x = F6_checks_92 (nI p) (mm_mx w (mm_nc (m.1 2))) 0 x := by
      unfold F6_checks_16
      refine Ev.up (S := fun c => (mm_mx w c, nI c, x)) (N := mm_nc (m.1 2)) (fun c hc => ?_) ?_ (FU_gt (by omega)) (by rw [nI_0, mm_mx])
      · simp only [F6_checks_16b, F6_checks_84, gI_def, ex, if_neg (nI_ge hc (show mm_nc (m.1 2) < 2 ^ 31 by omega)), h.2.1 0 (by omega), Xchoice hX hR hT hc, bind_e, sx_let_e, px_p1, mm_mx]
        obtain ⟨z, -, hz, ez⟩ := mx_in (w := w) c (fun c2 hc2 => hin c2 (by omega))
        rcases choice_in hT 0 (m.1 3 0) (m.1 4) c (m.1 4 0) with e | ⟨k, hk, e⟩
        · have ew : w c = 0 := by rw [hw]; unfold mm_w; rw [e, if_pos rfl]
          rw [e, if_pos (by decide), ew, if_neg (by rw [ez]; exact nI_pos (by omega))]
        · have hk4 : k < 4 := by omega
          have ew : w c = mm_pages (m.1 2) c k * mm_given (m.1 2) 0 k (m.1 4 0) := by
            rw [hw]
            unfold mm_w
            rw [e, if_neg (nI_m9 hk4), nI_clamp (by omega)]
          rw [e, if_neg (nI_pos (by omega))]
          simp only [Xpages hX hT hc hk, Xgiven hX hT hk, bind_e, gI_def, hR.1, ew, sx_let_e]
      · simp only [F6_checks_16b, gI_def, ex, if_pos (nI_le (Nat.le_refl (mm_nc (m.1 2))) (show mm_nc (m.1 2) < 2 ^ 31 by omega))]
    rw [C1]
    unfold F6_checks_92 F7_checks_19
    refine Ev2.bo (Ev2.loopB (fun k s t => s = (nI k, x) ∧ t = (nI k, m)) 10 (fun k s t hk hI => ?_) (fun s t hI => ?_) ⟨by rw [nI_0], by rw [nI_0]⟩ (FU_gt (by omega)))
    · obtain ⟨rfl, rfl⟩ := hI
      have f1 : ¬ (10 : Int32) ≤ nI k := by rw [px_l10]; exact nI_ge hk (by omega)
      have f2 : ¬ (11 : Int32) ≤ nI k := by rw [show (11 : Int32) = nI 11 from by decide]; exact nI_ge (by omega) (by omega)
      simp only [F6_checks_92b, F6_checks_116, F7_checks_19b, if_neg f1, if_neg f2, Mchecks hT h16, ← hw, sx_let_e, px_p1, Option.map_some]
      rcases ok_mx (w := w) (i := k) (p := p) (by omega) hp _ hin with ⟨o1, o2⟩ | ⟨o1, o2⟩
      · rw [if_neg o2, if_pos o1]
        exact Ev2.ret (Or.inl ⟨_, _, rfl, rfl, rfl, rfl⟩)
      · rw [if_pos o2, if_neg (by rw [o1]; decide)]
        exact Ev2.ret (Or.inr ⟨_, _, rfl, rfl, rfl, h⟩)
    · obtain ⟨rfl, rfl⟩ := hI
      have f1 : (10 : Int32) ≤ nI 10 := by decide
      have f2 : ¬ (11 : Int32) ≤ nI 10 := by decide
      simp only [F6_checks_92b, F6_checks_116, F7_checks_19b, if_pos f1, if_neg f2, Mchecks hT h16, ← hw, Option.map_some]
      rcases ok_mx (w := w) (i := 10) (p := p) (by omega) hp _ hin with ⟨o1, o2⟩ | ⟨o1, o2⟩
      · exfalso
        apply o2
        rw [show (10 : Int32) - nI 10 = 0 from by decide, Int32.zero_mul, pk_mul]
        exact nI_pos' (by omega)
      · rw [if_neg (by rw [o1]; decide)]
        exact Ev2.ret ⟨_, _, rfl, rfl, rfl, h⟩
  · rw [e]
    exact Bo.ret h
end CHECKS
