/-! THE CLASS'S DAY -/
/-- the sheet at the cell k tells T -/
def XT (x : SQ) (k : Nat) (T : Nat → Int32) : Prop :=
  x.1 k 0 = T 40 ∧ x.1 k 1 = T 41 ∧ x.1 k 8 = T 36 ∧ x.1 k 9 = T 37 ∧ x.1 k 10 = T 39 ∧ x.1 k 11 = T 38 ∧
  (∀ c, c < mm_nc T → x.1 (k + 1) c = T (3 * c) ∧ x.1 (k + 2) c = T (3 * c + 1) ∧ x.1 (k + 3) c = T (3 * c + 2)) ∧
  (∀ s, s < mm_ns T → x.1 (k + 4) s = T (24 + 3 * s) ∧ x.1 (k + 5) s = T (24 + 3 * s + 1) ∧ x.1 (k + 6) s = T (24 + 3 * s + 2))
/-- the course at the cell k holds the row S of a class of n -/
def XR (x : SQ) (k n : Nat) (S : Nat → Int32) : Prop :=
  x.1 k 0 = S 0 ∧ x.1 k 1 = S 1 ∧ ∀ c, c < n → x.1 (k + 1) c = S (3 + 3 * c) ∧ x.1 (k + 2) c = S (3 + 3 * c + 1) ∧ x.1 (k + 3) c = S (3 + 3 * c + 2)
/-- only the cells of P changed -/
def Only (P : Nat → Prop) (x y : SQ) : Prop := (∀ o, ¬ P o → y.1 o = x.1 o) ∧ y.2 = x.2
theorem Only.rf {P : Nat → Prop} (x : SQ) : Only P x x := ⟨fun _ _ => rfl, rfl⟩
theorem Only.tr {P : Nat → Prop} {x y z : SQ} (h1 : Only P x y) (h2 : Only P y z) : Only P x z := ⟨fun o h => (h2.1 o h).trans (h1.1 o h), h2.2.trans h1.2⟩
theorem Only.mono {P P2 : Nat → Prop} {x y : SQ} (h1 : Only P x y) (h : ∀ o, P o → P2 o) : Only P2 x y := ⟨fun o h2 => h1.1 o (fun z => h2 (h o z)), h1.2⟩
theorem Only.sI {P : Nat → Prop} {x y : SQ} (h1 : Only P x y) {o k : Nat} {v : Int32} (h : P o) : Only P x (sI y o k v) :=
  ⟨fun a ha => (sx_row_ne y k v (fun e => ha (by rw [e]; exact h))).trans (h1.1 a ha), h1.2⟩
theorem Only.sA {P : Nat → Prop} {x y : SQ} (h1 : Only P x y) {o : Nat} {f : Nat → Int32} (h : P o) : Only P x (sA y o f) :=
  ⟨fun a ha => (sA_ne y f (fun e => ha (by rw [e]; exact h))).trans (h1.1 a ha), h1.2⟩
theorem XT.cong {x y : SQ} {k : Nat} {T : Nat → Int32} (h : XT x k T) (e : ∀ o, k ≤ o → o ≤ k + 6 → y.1 o = x.1 o) : XT y k T := by
  obtain ⟨h1, h2, h3, h4, h5, h6, h7, h8⟩ := h
  refine ⟨?_, ?_, ?_, ?_, ?_, ?_, fun c hc => ?_, fun s hs => ?_⟩
  · rw [e k (by omega) (by omega)]; exact h1
  · rw [e k (by omega) (by omega)]; exact h2
  · rw [e k (by omega) (by omega)]; exact h3
  · rw [e k (by omega) (by omega)]; exact h4
  · rw [e k (by omega) (by omega)]; exact h5
  · rw [e k (by omega) (by omega)]; exact h6
  · rw [e (k + 1) (by omega) (by omega), e (k + 2) (by omega) (by omega), e (k + 3) (by omega) (by omega)]; exact h7 c hc
  · rw [e (k + 4) (by omega) (by omega), e (k + 5) (by omega) (by omega), e (k + 6) (by omega) (by omega)]; exact h8 s hs
theorem XR.cong {x y : SQ} {k n : Nat} {S : Nat → Int32} (h : XR x k n S) (e : ∀ o, k ≤ o → o ≤ k + 3 → y.1 o = x.1 o) : XR y k n S := by
  obtain ⟨h1, h2, h3⟩ := h
  refine ⟨?_, ?_, fun c hc => ?_⟩
  · rw [e k (by omega) (by omega)]; exact h1
  · rw [e k (by omega) (by omega)]; exact h2
  · rw [e (k + 1) (by omega) (by omega), e (k + 2) (by omega) (by omega), e (k + 3) (by omega) (by omega)]; exact h3 c hc
section XDAY
variable {x : SQ} {k r : Nat} {T S : Nat → Int32}
theorem Xpages {c s : Nat} (h : XT x k T) (hT : okT T) (hc : c < mm_nc T) (hs : s < mm_ns T) : F4_pagesIn k (nI c) (nI s) x = some (mm_pages T c s, x) := by
  have h40 := hT.nc.2
  have h41 := hT.ns.2
  have hh := (hT.2.2.2.2.2.2.2 s hs).1
  have e1 := (h.2.2.2.2.2.2.2 s hs).1
  have e2 := (h.2.2.2.2.2.2.1 c hc).2.1
  unfold F4_pagesIn
  simp (disch := omega) only [Int32.add_zero, px_m3, px_a3, px_a24, px_a36, px_a42, px_m27, px_p1, px_p2, px_p3, nI_add, nI_clamp, sx_ixN, if_true, Bool.false_eq_true, if_false, gI_def, e1, e2, if_neg (hh.pos (by omega) (by omega)), sx_n0_of (hh.ne0 (by omega) (by omega))]
  rfl
theorem Xgiven {s : Nat} {day : Int32} (h : XT x k T) (hT : okT T) (hs : s < mm_ns T) : F4_givenOn k (nI s) day x = some (mm_given T 0 s day, x) := by
  have h41 := hT.ns.2
  have e1 := (h.2.2.2.2.2.2.2 s hs).2.2
  obtain ⟨-, -, h3, h4, h5, -⟩ := h
  unfold F4_givenOn F4_givenOn_21 mm_given
  simp (disch := omega) only [Int32.add_zero, px_m3, px_a3, px_a24, px_a36, px_a42, px_m27, px_p1, px_p2, px_p3, nI_add, nI_clamp, sx_ixN, if_true, Bool.false_eq_true, if_false, gI_def, e1, h3, h4, h5, sx_n0_of (hT.2.2.2.2.1.succ0 (by omega)), px_ite]
theorem Xjoys {c s : Nat} (h : XT x r T) (hS : XR x k (mm_nc T) S) (hT : okT T) (hc : c < mm_nc T) (hs : s < mm_ns T) : F0_joysOf k r (nI c) (nI s) x = some (mm_joys T S c s, x) := by
  have h40 := hT.nc.2
  have h41 := hT.ns.2
  have e1 := (h.2.2.2.2.2.2.2 s hs).2.1
  have e2 := (hS.2.2 c hc).1
  unfold F0_joysOf
  simp (disch := omega) only [Int32.add_zero, px_m3, px_a3, px_a24, px_a36, px_a42, px_m27, px_p1, px_p2, px_p3, nI_add, nI_clamp, sx_ixN, if_true, Bool.false_eq_true, if_false, gI_def, e1, e2]
  rfl
theorem Xstars {c s : Nat} (h : XT x r T) (hS : XR x k (mm_nc T) S) (hT : okT T) (hc : c < mm_nc T) (hs : s < mm_ns T) : F0_starsFor k r (nI c) (nI s) x = some (mm_stars T 0 S c s (S 0), x) := by
  have h40 := hT.nc.2
  have e2 := (h.2.2.2.2.2.2.1 c hc).2.2
  unfold F0_starsFor
  simp (disch := omega) only [Int32.add_zero, px_m3, px_a3, px_a24, px_a36, px_a42, px_m27, px_p1, px_p2, px_p3, nI_add, nI_clamp, sx_ixN, if_true, Bool.false_eq_true, if_false, sx_let, Option.bind_some, Option.map_some, Xpages h hT hc hs, Xgiven h hT hs, gI_def, e2, hS.1, hS.2.1]
  rfl
theorem Xwant {c s : Nat} (h : XT x r T) (hS : XR x k (mm_nc T) S) (hT : okT T) (hc : c < mm_nc T) (hs : s < mm_ns T) : F0_wantOf k r (nI c) (nI s) x = some (mm_want T 0 S c s (S 0), x) := by
  have h6 := h.2.2.2.2.2.1
  unfold F0_wantOf mm_want
  simp only [sx_let, Option.bind_some, Option.map_some, Xjoys h hS hT hc hs, Xstars h hS hT hc hs, gI_def, h6]
  rcases hT.2.2.2.2.2.1 with e | e
  · rw [e]
    simp only [if_true, show ¬ ((0 : Int32) = 1) from by decide, if_false, Int32.add_zero]
  · rw [e]
    simp only [if_true, show ¬ ((1 : Int32) = 0) from by decide, if_false]
theorem Xchoice {c : Nat} {idle : Int32} (h : XT x r T) (hS : XR x k (mm_nc T) S) (hT : okT T) (hc : c < mm_nc T) : F0_choiceOf k r (nI c) idle x = some (mm_choice T 0 idle S c (S 0), x) := by
  obtain ⟨e41, h41⟩ := hT.ns
  unfold F0_choiceOf F0_choiceOf_12
  simp only [sx_let, Option.bind_some, Option.map_some]
  refine Ev.up (S := fun s => ((mm_ch (fun s => mm_want T 0 S c s (S 0)) idle s).1, (mm_ch (fun s => mm_want T 0 S c s (S 0)) idle s).2, nI s, x)) (N := mm_ns T) (fun s hs => ?_) ?_ (FU_gt (by omega)) rfl
  · have h1 : ¬ gI x r 1 ≤ nI s := by
      rw [gI_def, h.2.1, e41]
      exact nI_ge hs (by omega)
    simp only [F0_choiceOf_12b, F0_choiceOf_46, if_neg h1, Xwant h hS hT hc hs, sx_let, Option.bind_some, Option.map_some, mm_ch, nI_1]
    split <;> rfl
  · have h1 : gI x r 1 ≤ nI (mm_ns T) := by
      rw [gI_def, h.2.1, e41]
      exact nI_le (by omega) (by omega)
    simp only [F0_choiceOf_12b, if_pos h1]
    rfl
theorem clamp_eq (v : Int32) : (if (0 : Int32) < if v < (100 : Int32) then v else (100 : Int32) then if v < (100 : Int32) then v else (100 : Int32) else (0 : Int32)) = mm_within v := by
  have a := Int32.le_iff_toInt_le (x := 0) (y := v)
  have b := Int32.lt_iff_toInt_lt (x := 0) (y := v)
  have c := Int32.lt_iff_toInt_lt (x := v) (y := 100)
  have d := Int32.le_iff_toInt_le (x := v) (y := 100)
  have z : (0 : Int32).toInt = 0 := rfl
  have h : (100 : Int32).toInt = 100 := by decide
  have inj : v.toInt = 0 → v = 0 := fun e => Int32.toInt_inj.mp (e.trans z.symm)
  have inj2 : v.toInt = 100 → v = 100 := fun e => Int32.toInt_inj.mp (e.trans h.symm)
  rw [z] at a b
  rw [h] at c d
  rw [mm_within]
  by_cases h1 : v < 100
  · rw [if_pos h1]
    have h1' := c.mp h1
    rw [if_pos (d.mpr (by omega))]
    by_cases h2 : 0 < v
    · rw [if_pos h2, if_pos (a.mpr (by have := b.mp h2; omega))]
    · rw [if_neg h2]
      by_cases h3 : 0 ≤ v
      · rw [if_pos h3]
        have e1 := a.mp h3
        have e2 : ¬ 0 < v.toInt := fun q => h2 (b.mpr q)
        exact (inj (by omega)).symm
      · rw [if_neg h3]
  · rw [if_neg h1, if_pos (show (0 : Int32) < 100 by decide)]
    have e2 : ¬ v.toInt < 100 := fun q => h1 (c.mpr q)
    rw [if_pos (a.mpr (by omega))]
    by_cases h3 : v ≤ 100
    · rw [if_pos h3]
      have e3 := d.mp h3
      exact (inj2 (by omega)).symm
    · rw [if_neg h3]
theorem Xlike {c s : Nat} {U : Nat → Int32} (h : XT x r T) (hS : XR x k (mm_nc T) S) (hT : okT T) (ho : okS T S) (hc : c < mm_nc T) (hs : s < mm_ns T) (hU : ∀ j, j < 6 → x.1 23 j = U j) : F0_likingBehind k r (nI c) (nI s) x = some (mm_like T 0 U S c s (S 0), x) := by
  have h40 := hT.nc.2
  have e1 := (hS.2.2 c hc).1
  have h6 := h.2.2.2.2.2.1
  have fin : ∀ v, F0_likingBehind_108 k r v x = some (mm_within v, x) := by
    intro v
    unfold F0_likingBehind_108
    rw [clamp_eq]
  have mid : ∀ v, F0_likingBehind_30 k r (nI c) (nI s) (mm_pages T c s) v x = some (mm_within (if T 38 = 1 then (if mm_stars T 0 S c s (S 0) ≤ 0 then v else v - U 2 * mm_stars T 0 S c s (S 0) / mm_want T 0 S c s (S 0)) else (if mm_pages T c s * mm_given T 0 s (S 0) ≤ 0 then v else v + U 3)), x) := by
    intro v
    unfold F0_likingBehind_30
    simp only [sx_let, Option.bind_some, Option.map_some, Xgiven h hT hs, Xstars h hS hT hc hs, Xwant h hS hT hc hs, fin, gI_def, h6, hS.1, hU 2 (by omega), hU 3 (by omega)]
    rcases hT.2.2.2.2.2.1 with e | e
    · rw [e]
      simp only [if_true, show ¬ ((0 : Int32) = 1) from by decide, if_false]
      split <;> rfl
    · rw [e]
      simp only [if_true, show ¬ ((1 : Int32) = 0) from by decide, if_false]
      by_cases hz : mm_stars T 0 S c s (S 0) ≤ 0
      · rw [if_pos hz, if_pos hz]
      · have hw := want_pos hT ho hc hs e hz
        rw [if_neg hz, if_neg hz, if_neg hw, if_pos (sx_n0_of (pos_ne hw))]
  unfold F0_likingBehind mm_like
  simp (disch := omega) only [Int32.add_zero, px_m3, px_a3, px_a24, px_a36, px_a42, px_m27, px_p1, px_p2, px_p3, nI_add, nI_clamp, sx_ixN, if_true, Bool.false_eq_true, if_false, sx_let, Option.bind_some, Option.map_some, Xpages h hT hc hs, mid, gI_def, e1, hU 1 (by omega)]
  by_cases hz : mm_pages T c s ≤ 0
  · simp only [if_pos hz, Int32.add_zero]
  · simp only [if_neg hz]
theorem any_bit (T : Nat → Int32) (b day : Int32) (n : Nat) : mm_any T b day n = 0 ∨ mm_any T b day n = 1 := by
  induction n with
  | zero => exact Or.inl rfl
  | succ k ih =>
    rw [mm_any]
    split
    · exact ih
    · exact Or.inr rfl
theorem any_one {T : Nat → Int32} {b day : Int32} {j : Nat} (h : ¬ mm_given T b j day ≤ 0) : ∀ n, j < n → mm_any T b day n = 1
  | 0, hj => by omega
  | n + 1, hj => by
    rw [mm_any]
    split
    · rename_i hg
      rcases Nat.lt_or_ge j n with q | q
      · exact any_one h n q
      · have : j = n := by omega
        subst this
        exact absurd hg h
    · rfl
theorem Xnone {day : Int32} (h : XT x r T) (hT : okT T) : F4_givesNothing r day x = some (if mm_any T 0 day (mm_ns T) = 0 then 1 else 0, x) := by
  obtain ⟨e41, h41⟩ := hT.ns
  have h0 : ∀ n, n ≤ mm_ns T → (∀ j, j < n → mm_given T 0 j day ≤ 0) → mm_any T 0 day n = 0 := by
    intro n
    induction n with
    | zero => intro _ _; rfl
    | succ n ih =>
      intro hn hg
      rw [mm_any, if_pos (hg n (by omega))]
      exact ih (by omega) (fun j hj => hg j (by omega))
  unfold F4_givesNothing F4_givesNothing_2
  have go := Ev.loop (body := fun s5 => F4_givesNothing_2b r day s5.1 s5.2) (P := fun z => z = ((if mm_any T 0 day (mm_ns T) = 0 then (1 : Int32) else 0), x)) (fun j s => s = (nI j, x) ∧ ∀ i, i < j → mm_given T 0 i day ≤ 0) (mm_ns T) (fun j s hj hI => ?_) (fun s hI => ?_) (s := ((0 : Int32), x)) ⟨rfl, fun i hi => by omega⟩ (FU_gt (by omega))
  · obtain ⟨z, e, rfl⟩ := go
    exact e
  · obtain ⟨rfl, hg⟩ := hI
    have h1 : ¬ gI x r 1 ≤ nI j := by
      rw [gI_def, h.2.1, e41]
      exact nI_ge hj (by omega)
    simp only [F4_givesNothing_2b, if_neg h1, Xgiven h hT hj, sx_let, Option.bind_some, Option.map_some, nI_1]
    by_cases hz : mm_given T 0 j day ≤ 0
    · rw [if_pos hz]
      refine Ev.ret (Or.inl ⟨_, rfl, rfl, fun i hi => ?_⟩)
      rcases Nat.lt_or_ge i j with q | q
      · exact hg i q
      · have : i = j := by omega
        subst this
        exact hz
    · rw [if_neg hz]
      refine Ev.ret (Or.inr ⟨_, rfl, ?_⟩)
      rw [any_one hz _ hj]
      rfl
  · obtain ⟨rfl, hg⟩ := hI
    have h1 : gI x r 1 ≤ nI (mm_ns T) := by
      rw [gI_def, h.2.1, e41]
      exact nI_le (by omega) (by omega)
    simp only [F4_givesNothing_2b, if_pos h1]
    refine Ev.ret ⟨_, rfl, ?_⟩
    rw [h0 _ (Nat.le_refl _) hg]
    rfl
theorem Xworth {all : Int32} {U : Nat → Int32} (h : XT x r T) (hS : XR x k (mm_nc T) S) (hT : okT T) (hU : ∀ j, j < 6 → x.1 23 j = U j) : F0_worthBehind k r all x = some (mm_within (S 1 - mm_wear T U all + (if mm_any T 0 (S 0) (mm_ns T) = 0 then U 5 else 0)), x) := by
  obtain ⟨e40, h40⟩ := hT.nc
  have fin : ∀ v, F0_worthBehind_50 k r v x = some (mm_within v, x) := by
    intro v
    unfold F0_worthBehind_50
    rw [clamp_eq]
  have mid : ∀ v, F0_worthBehind_31 k r v x = some (mm_within (v + (if mm_any T 0 (S 0) (mm_ns T) = 0 then U 5 else 0)), x) := by
    intro v
    unfold F0_worthBehind_31
    simp only [sx_let, Option.bind_some, Option.map_some, gI_def, hS.1, Xnone h hT, fin, hU 5 (by omega)]
    by_cases hz : mm_any T 0 (S 0) (mm_ns T) = 0
    · simp only [if_pos hz, show ¬ ((1 : Int32) = 0) from by decide, if_false]
    · simp only [if_neg hz, if_true, Int32.add_zero]
  unfold F0_worthBehind
  simp only [sx_let, Option.bind_some, Option.map_some, gI_def, h.1, mid, hU 4 (by omega), hS.2.1]
  by_cases hz : T 40 = 0
  · have e : T 40 ≤ 0 := by rw [hz]; exact Int32.le_refl 0
    rw [if_pos e, mm_wear, if_pos hz, Int32.sub_zero]
  · have e : ¬ T 40 ≤ 0 := by
      rw [e40] at hz ⊢
      rcases Nat.eq_zero_or_pos (mm_nc T) with q | q
      · rw [q] at hz
        exact absurd nI_0 hz
      · exact nI_nle q (by omega)
    have hn : sx_n0 (10 * T 40) = true := by
      apply sx_n0_of
      rw [e40] at hz ⊢
      rw [show (10 : Int32) = nI 10 from rfl, pk_mul]
      rcases Nat.eq_zero_or_pos (mm_nc T) with q | q
      · rw [q] at hz
        exact absurd nI_0 hz
      · exact nI_ne0 (by omega) (by omega)
    rw [if_neg e, if_pos hn, mm_wear, if_neg hz]
/-- pass: the course goes on by a day; only its four cells change -/
theorem Xpass {U : Nat → Int32} (h : XT x r T) (hS : XR x k (mm_nc T) S) (hT : okT T) (ho : okS T S) (hU : ∀ j, j < 6 → x.1 23 j = U j) (hk : ∀ o, r ≤ o → o ≤ r + 6 → ¬ (k ≤ o ∧ o ≤ k + 3)) (h23 : ¬ (k ≤ 23 ∧ 23 ≤ k + 3)) :
    Ev (F0_pass k r x) (fun z => z.1 = (mm_day T 0 U S).2 ∧ XR z.2 k (mm_nc T) (mm_day T 0 U S).1 ∧ Only (fun o => k ≤ o ∧ o ≤ k + 3) x z.2) := by
  obtain ⟨e40, h40⟩ := hT.nc
  obtain ⟨e41, h41⟩ := hT.ns
  unfold F0_pass F0_pass_8
  refine Ev.loop (fun c s => ∃ y, s = ((mm_kids T 0 U (S 0) S c).2.1, (mm_kids T 0 U (S 0) S c).2.2, nI c, y) ∧ XR y k (mm_nc T) (mm_kids T 0 U (S 0) S c).1 ∧ Only (fun o => k ≤ o ∧ o ≤ k + 3) x y) (mm_nc T) (fun c s hc hI => ?_) (fun s hI => ?_) ⟨x, rfl, hS, Only.rf x⟩ (FU_gt (by omega))
  · obtain ⟨y, rfl, hR, hO⟩ := hI
    have hok := kids_ok (bare := 0) (U := U) (day := S 0) ho c
    have hd : (mm_kids T 0 U (S 0) S c).1 0 = S 0 := kids_far _ _ (by omega)
    have hun : mm_kids T 0 U (S 0) S (c + 1) = _ := mm_kids.eq_2 T 0 U (S 0) S c
    rw [hun]
    generalize mm_kids T 0 U (S 0) S c = p at hok hR hd ⊢
    clear hun
    obtain ⟨S2, pg, al⟩ := p
    simp only [] at hok hR hd ⊢
    have hTy : XT y r T := h.cong (fun o a b => hO.1 o (hk o a b))
    have hUy : ∀ j, j < 6 → y.1 23 j = U j := fun j hj => by rw [hO.1 23 h23]; exact hU j hj
    have h1 : ¬ y.1 r 0 ≤ nI c := by
      rw [hTy.1, e40]
      exact nI_ge hc (by omega)
    simp only [F0_pass_8b, if_neg h1, gI_def, hUy 0 (by omega), Xchoice (idle := U 0) hTy hR hT hc, sx_let, Option.bind_some, Option.map_some, hd]
    rcases choice_in hT 0 (U 0) S2 c (S 0) with e | ⟨s, hs, e⟩
    · rw [e]
      simp only [if_true, show ((-9 : Int32) < 0) from by decide, F0_pass_112, sx_let, Option.bind_some, Option.map_some, nI_1]
      exact Ev.ret (Or.inl ⟨_, rfl, y, rfl, hR, hO⟩)
    · rw [e]
      have hk9 := nI_m9 (show s < 4 by omega)
      rw [if_neg (nI_pos (by omega)), if_neg hk9, nI_clamp (by omega)]
      have hl := Xlike (U := U) hTy hR hT hok hc hs hUy
      rw [hd] at hl
      have hg := Xgiven (day := y.1 k 0) hTy hT hs
      rw [hR.1, hd] at hg
      simp (disch := omega) only [Xpages hTy hT hc hs, sx_let, Option.bind_some, Option.map_some, hR.1, hd, hg, hl, Int32.add_zero, px_m3, px_a3, px_a24, px_a36, px_a42, px_m27, px_p1, px_p2, px_p3, nI_add, nI_clamp, sx_ixN, if_true, Bool.false_eq_true, if_false, F0_pass_112]
      refine Ev.ret (Or.inl ⟨_, rfl, _, rfl, ?_, ((hO.sI (by omega)).sI (by omega)).sI (by omega)⟩)
      obtain ⟨r0, r1, r2⟩ := hR
      obtain ⟨q1, q2, q3⟩ := r2 c hc
      refine ⟨?_, ?_, fun c2 hc2 => ?_⟩
      · rw [sx_row_ne _ _ _ (by omega), sx_row_ne _ _ _ (by omega), sx_row_ne _ _ _ (by omega), mm_put, upd_ne _ _ (by omega), upd_ne _ _ (by omega), upd_ne _ _ (by omega)]
        exact r0
      · rw [sx_row_ne _ _ _ (by omega), sx_row_ne _ _ _ (by omega), sx_row_ne _ _ _ (by omega), mm_put, upd_ne _ _ (by omega), upd_ne _ _ (by omega), upd_ne _ _ (by omega)]
        exact r1
      · obtain ⟨t1, t2, t3⟩ := r2 c2 hc2
        rw [sx_row_ne _ _ _ (show k + 1 ≠ k + 3 by omega), sx_row_ne _ _ _ (show k + 1 ≠ k + 2 by omega), sx_row, sx_row_ne _ _ _ (show k + 2 ≠ k + 3 by omega), sx_row, sx_row]
        rw [sx_row_ne _ _ _ (show k + 2 ≠ k + 1 by omega)]
        rw [sx_row_ne _ _ _ (show k + 3 ≠ k + 2 by omega), sx_row_ne _ _ _ (show k + 3 ≠ k + 1 by omega)]
        by_cases hcc : c2 = c
        · subst hcc
          refine ⟨?_, ?_, ?_⟩
          · rw [upd_eq, mm_put, upd_ne _ _ (by omega), upd_ne _ _ (by omega), upd_eq]
          · rw [upd_eq, mm_put, upd_ne _ _ (by omega), upd_eq, q2]
          · rw [upd_eq, mm_put, upd_eq, q3]
        · refine ⟨?_, ?_, ?_⟩
          · rw [upd_ne _ _ hcc, mm_put, upd_ne _ _ (by omega), upd_ne _ _ (by omega), upd_ne _ _ (by omega)]; exact t1
          · rw [upd_ne _ _ hcc, mm_put, upd_ne _ _ (by omega), upd_ne _ _ (by omega), upd_ne _ _ (by omega)]; exact t2
          · rw [upd_ne _ _ hcc, mm_put, upd_ne _ _ (by omega), upd_ne _ _ (by omega), upd_ne _ _ (by omega)]; exact t3
  · obtain ⟨y, rfl, hR, hO⟩ := hI
    have hd : (mm_kids T 0 U (S 0) S (mm_nc T)).1 0 = S 0 := kids_far _ _ (by omega)
    have hTy : XT y r T := h.cong (fun o a b => hO.1 o (hk o a b))
    have hUy : ∀ j, j < 6 → y.1 23 j = U j := fun j hj => by rw [hO.1 23 h23]; exact hU j hj
    have h1 : gI y r 0 ≤ nI (mm_nc T) := by
      rw [gI_def, hTy.1, e40]
      exact nI_le (by omega) (by omega)
    simp only [F0_pass_8b, if_pos h1, Xworth (U := U) hTy hR hT hUy, sx_let, Option.bind_some, Option.map_some]
    refine Ev.ret ⟨_, rfl, rfl, ?_, (hO.sI (by omega)).sI (by omega)⟩
    rw [hd]
    obtain ⟨r0, r1, r2⟩ := hR
    refine ⟨?_, ?_, fun c2 hc2 => ?_⟩
    · rw [sx_row, upd_eq, gI_def, sx_row, upd_ne _ _ (by omega), r0]
      simp only [mm_day]
      rw [upd_eq]
    · rw [sx_row, upd_ne _ _ (by omega), sx_row, upd_eq]
      simp only [mm_day]
      rw [upd_ne _ _ (by omega), upd_eq]
    · obtain ⟨t1, t2, t3⟩ := r2 c2 hc2
      simp only [mm_day]
      rw [sx_row_ne _ _ _ (show k + 1 ≠ k by omega), sx_row_ne _ _ _ (show k + 1 ≠ k by omega), sx_row_ne _ _ _ (show k + 2 ≠ k by omega), sx_row_ne _ _ _ (show k + 2 ≠ k by omega), sx_row_ne _ _ _ (show k + 3 ≠ k by omega), sx_row_ne _ _ _ (show k + 3 ≠ k by omega)]
      rw [upd_ne _ _ (show 3 + 3 * c2 ≠ 0 by omega), upd_ne _ _ (show 3 + 3 * c2 ≠ 1 by omega), upd_ne _ _ (show 3 + 3 * c2 + 1 ≠ 0 by omega), upd_ne _ _ (show 3 + 3 * c2 + 1 ≠ 1 by omega), upd_ne _ _ (show 3 + 3 * c2 + 2 ≠ 0 by omega), upd_ne _ _ (show 3 + 3 * c2 + 2 ≠ 1 by omega)]
      exact ⟨t1, t2, t3⟩
end XDAY
