/-! PURE: words to speak of what the functions answer -/
def Ev {α : Type} (o : Option α) (P : α → Prop) : Prop := ∃ r, o = some r ∧ P r
theorem Ev.ret {α : Type} {a : α} {P : α → Prop} (h : P a) : Ev (some a) P := ⟨a, rfl, h⟩
theorem Ev.eq {α : Type} {o : Option α} {a : α} {P : α → Prop} (e : o = Option.some a) (h : P a) : Ev o P := ⟨a, e, h⟩
theorem Ev.bind {α β : Type} {o : Option α} {f : α → Option β} {P : α → Prop} {Q : β → Prop} (h : Ev o P) (k : ∀ r, P r → Ev (f r) Q) : Ev (o.bind f) Q := by
  obtain ⟨r, rfl, hr⟩ := h
  exact k r hr
theorem Ev.map {α β : Type} {o : Option α} {f : α → β} {P : α → Prop} {Q : β → Prop} (h : Ev o P) (k : ∀ r, P r → Q (f r)) : Ev (o.map f) Q := by
  obtain ⟨r, rfl, hr⟩ := h
  exact ⟨_, rfl, k r hr⟩
theorem Ev.mono {α : Type} {o : Option α} {P Q : α → Prop} (h : Ev o P) (k : ∀ r, P r → Q r) : Ev o Q := by
  obtain ⟨r, e, hr⟩ := h
  exact ⟨r, e, k r hr⟩
theorem Ev.lt {α β : Type} {x : α} {f : α → Option β} {Q : β → Prop} (h : Ev (f x) Q) : Ev (sx_let x f) Q := h
theorem Ev.ite {α : Type} {c : Prop} [Decidable c] {a b : Option α} {P : α → Prop} (h1 : c → Ev a P) (h2 : ¬ c → Ev b P) : Ev (if c then a else b) P := by
  by_cases h : c
  · rw [if_pos h]; exact h1 h
  · rw [if_neg h]; exact h2 h
theorem Ev.pos {α : Type} {c : Prop} [Decidable c] {a b : Option α} {P : α → Prop} (h : c) (k : Ev a P) : Ev (if c then a else b) P := by rw [if_pos h]; exact k
theorem Ev.neg {α : Type} {c : Prop} [Decidable c] {a b : Option α} {P : α → Prop} (h : ¬ c) (k : Ev b P) : Ev (if c then a else b) P := by rw [if_neg h]; exact k
/-- a loop by an invariant: after k rounds I k; at N the body leaves -/
theorem Ev.loop {σ ρ : Type} {body : σ → Option (σ ⊕ ρ)} {P : ρ → Prop} (I : Nat → σ → Prop) (N : Nat) (hs : ∀ k s, k < N → I k s → Ev (body s) (fun x => (∃ s2, x = .inl s2 ∧ I (k + 1) s2) ∨ ∃ t, x = .inr t ∧ P t)) (he : ∀ s, I N s → Ev (body s) (fun x => ∃ t, x = .inr t ∧ P t)) {s : σ} (h0 : I 0 s) (hN : N < FU) : Ev (sx_loop body FU s) P := by
  have key : ∀ (n k : Nat) (s : σ), I k s → k ≤ N → N < k + n → Ev (sx_loop body n s) P := by
    intro n
    induction n with
    | zero => intro k s _ h1 h2; omega
    | succ n ih =>
      intro k s hI h1 h2
      show Ev ((body s).bind _) P
      by_cases hk : k = N
      · subst hk
        obtain ⟨x, e, t, rfl, ht⟩ := he s hI
        rw [e]
        exact ⟨t, rfl, ht⟩
      · obtain ⟨x, e, h⟩ := hs k s (by omega) hI
        rw [e]
        rcases h with ⟨s2, rfl, h⟩ | ⟨t, rfl, h⟩
        · exact ih (k + 1) s2 h (by omega) (by omega)
        · exact ⟨t, rfl, h⟩
  exact key FU 0 s h0 (Nat.zero_le _) (by omega)
/-- the same with states that are told -/
theorem Ev.up {σ ρ : Type} {body : σ → Option (σ ⊕ ρ)} {K : Option ρ} (S : Nat → σ) (N : Nat) (hs : ∀ k, k < N → body (S k) = some (.inl (S (k + 1)))) (he : body (S N) = K.map .inr) (hN : N < FU) {s : σ} (h0 : s = S 0) : sx_loop body FU s = K := by
  subst h0
  have key : ∀ (n k : Nat), k ≤ N → N < k + n → sx_loop body n (S k) = K := by
    intro n
    induction n with
    | zero => intro k h1 h2; omega
    | succ n ih =>
      intro k h1 h2
      show (body (S k)).bind _ = K
      by_cases hk : k = N
      · subst hk
        rw [he]
        cases K <;> rfl
      · rw [hs k (by omega)]
        exact ih (k + 1) (by omega) (by omega)
  exact key FU 0 (Nat.zero_le _) (by omega)
theorem px_ite {α β : Type} {c : Prop} [Decidable c] {a b : α} {m : β} : (if c then some (a, m) else some (b, m)) = some ((if c then a else b), m) := by split <;> rfl
theorem FU_gt {n : Nat} (h : n < 1000) : n < FU := h
theorem px_m3 (a : Nat) : (3 : Int32) * nI a = nI (3 * a) := pk_mul 3 a
theorem px_m27 (a : Nat) : (27 : Int32) * nI a = nI (27 * a) := pk_mul 27 a
theorem px_a3 (a : Nat) : (3 : Int32) + nI a = nI (3 + a) := nI_add 3 a
theorem px_a24 (a : Nat) : (24 : Int32) + nI a = nI (24 + a) := nI_add 24 a
theorem px_a36 (a : Nat) : (36 : Int32) + nI a = nI (36 + a) := nI_add 36 a
theorem px_a42 (a : Nat) : (42 : Int32) + nI a = nI (42 + a) := nI_add 42 a
theorem px_p1 (a : Nat) : nI a + (1 : Int32) = nI (a + 1) := nI_add a 1
theorem px_p2 (a : Nat) : nI a + (2 : Int32) = nI (a + 2) := nI_add a 2
theorem px_p3 (a : Nat) : nI a + (3 : Int32) = nI (a + 3) := nI_add a 3
theorem sx_n0_of {x : Int32} (h : ¬ x = 0) : sx_n0 x = true := by simp [sx_n0, h]
theorem sx_bt_of {x : Int32} (h : x = 0 ∨ x = 1) : sx_bt x = true := by
  rcases h with rfl | rfl <;> rfl
/-! rows of the told sheet: 3c liking, able, take; 24+3k hard, joy, pay; 36 from, 37 until, 38 told, 39 thin, 40 children, 41 sorts -/
def mm_pages (T : Nat → Int32) (c k : Nat) : Int32 := (6 : Int32) * T (3 * c + 1) / T (24 + 3 * k)
def mm_given (T : Nat → Int32) (bare : Int32) (k : Nat) (day : Int32) : Int32 :=
  if bare = 0 then (if day < T 36 then 0 else if day < T 37 + T 39 then (if T 37 ≤ day then T (24 + 3 * k + 2) * (T 37 + T 39 - day) / (T 39 + 1) else T (24 + 3 * k + 2)) else 0) else 0
def mm_joys (T S : Nat → Int32) (c k : Nat) : Int32 := T (24 + 3 * k + 1) * S (3 + 3 * c) / 10
def mm_stars (T : Nat → Int32) (bare : Int32) (S : Nat → Int32) (c k : Nat) (day : Int32) : Int32 := mm_pages T c k * mm_given T bare k day * T (3 * c + 2) * S 1 / 100
def mm_want (T : Nat → Int32) (bare : Int32) (S : Nat → Int32) (c k : Nat) (day : Int32) : Int32 := mm_joys T S c k + (if T 38 = 1 then mm_stars T bare S c k day else 0)
def mm_ch (W : Nat → Int32) (idle : Int32) : Nat → Int32 × Int32
  | 0 => (-9, idle - 1)
  | k + 1 => if W k ≤ (mm_ch W idle k).2 then mm_ch W idle k else (nI k, W k)
def mm_nc (T : Nat → Int32) : Nat := (T 40).toNatClampNeg
def mm_ns (T : Nat → Int32) : Nat := (T 41).toNatClampNeg
def mm_choice (T : Nat → Int32) (bare idle : Int32) (S : Nat → Int32) (c : Nat) (day : Int32) : Int32 := (mm_ch (fun k => mm_want T bare S c k day) idle (mm_ns T)).1
/-- a number of 0 .. n -/
def inN (x : Int32) (a n : Nat) : Prop := ∃ j, a ≤ j ∧ j ≤ n ∧ x = nI j
/-- a told sheet is as the text may tell it -/
def okT (T : Nat → Int32) : Prop :=
  inN (T 40) 0 8 ∧ inN (T 41) 0 4 ∧ inN (T 36) 0 99 ∧ inN (T 37) 0 99 ∧ inN (T 39) 0 20 ∧ (T 38 = 0 ∨ T 38 = 1) ∧
  (∀ c, c < mm_nc T → inN (T (3 * c)) 0 100 ∧ inN (T (3 * c + 1)) 1 9 ∧ inN (T (3 * c + 2)) 0 9) ∧
  (∀ k, k < mm_ns T → inN (T (24 + 3 * k)) 1 9 ∧ inN (T (24 + 3 * k + 1)) 0 9 ∧ inN (T (24 + 3 * k + 2)) 0 9)
theorem okT.nc {T : Nat → Int32} (h : okT T) : T 40 = nI (mm_nc T) ∧ mm_nc T ≤ 8 := by
  obtain ⟨⟨j, -, h2, h3⟩, -⟩ := h
  have e : mm_nc T = j := by rw [mm_nc, h3]; exact nI_clamp (by omega)
  rw [e]
  exact ⟨h3, h2⟩
theorem okT.ns {T : Nat → Int32} (h : okT T) : T 41 = nI (mm_ns T) ∧ mm_ns T ≤ 4 := by
  obtain ⟨-, ⟨j, -, h2, h3⟩, -⟩ := h
  have e : mm_ns T = j := by rw [mm_ns, h3]; exact nI_clamp (by omega)
  rw [e]
  exact ⟨h3, h2⟩
theorem inN.ne0 {x : Int32} {a n : Nat} (h : inN x a n) (ha : 0 < a) (hn : n < 2 ^ 31) : ¬ x = 0 := by
  obtain ⟨j, h1, h2, rfl⟩ := h
  exact nI_ne0 (by omega) (by omega)
theorem inN.pos {x : Int32} {a n : Nat} (h : inN x a n) (ha : 0 < a) (hn : n < 2 ^ 31) : ¬ x ≤ 0 := by
  obtain ⟨j, h1, h2, rfl⟩ := h
  exact nI_nle (by omega) (by omega)
theorem inN.succ0 {x : Int32} {n : Nat} (h : inN x 0 n) (hn : n < 2 ^ 30) : ¬ x + 1 = 0 := by
  obtain ⟨j, h1, h2, rfl⟩ := h
  rw [nI_1]
  exact nI_ne0 (by omega) (by omega)
/-! the model's functions -/
section MOD
variable {m : SQ}
theorem Mpages {c k : Nat} (hc : c < 8) (hk : k < 4) (h : ¬ (m.1 2) (24 + 3 * k) = 0) : F7_pagesOf (nI c) (nI k) m = some (mm_pages (m.1 2) c k, m) := by
  have h2 : sx_n0 (gI m 2 (24 + 3 * k)) = true := sx_n0_of h
  unfold F7_pagesOf
  simp (disch := omega) only [Int32.add_zero, px_m3, px_a3, px_a24, px_a36, px_a42, px_m27, px_p1, px_p2, px_p3, nI_add, nI_clamp, sx_ixN, if_true, Bool.false_eq_true, if_false, h2]
  rfl
theorem Mgiven {k : Nat} {day : Int32} (hk : k < 4) (h : inN (m.1 2 39) 0 20) : F7_givenOf (nI k) day m = some (mm_given (m.1 2) (m.1 0 16) k day, m) := by
  have h2 : sx_n0 (gI m 2 39 + 1) = true := sx_n0_of (h.succ0 (by omega))
  unfold F7_givenOf F7_givenOf_55 mm_given
  simp (disch := omega) only [Int32.add_zero, px_m3, px_a3, px_a24, px_a36, px_a42, px_m27, px_p1, px_p2, px_p3, nI_add, nI_clamp, sx_ixN, if_true, Bool.false_eq_true, if_false, sx_let, Option.bind_some, Option.map_some, h2, px_ite]
  rfl
theorem Mjoys {r c k : Nat} (hc : c < 8) (hk : k < 4) : F7_joysOf r (nI c) (nI k) m = some (mm_joys (m.1 2) (m.1 r) c k, m) := by
  unfold F7_joysOf
  simp (disch := omega) only [Int32.add_zero, px_m3, px_a3, px_a24, px_a36, px_a42, px_m27, px_p1, px_p2, px_p3, nI_add, nI_clamp, sx_ixN, if_true, Bool.false_eq_true, if_false]
  rfl
theorem Mstars {r c k : Nat} {day : Int32} (hc : c < 8) (hk : k < 4) (h : ¬ (m.1 2) (24 + 3 * k) = 0) (h3 : inN (m.1 2 39) 0 20) : F7_starsOf r (nI c) (nI k) day m = some (mm_stars (m.1 2) (m.1 0 16) (m.1 r) c k day, m) := by
  unfold F7_starsOf
  simp (disch := omega) only [Int32.add_zero, px_m3, px_a3, px_a24, px_a36, px_a42, px_m27, px_p1, px_p2, px_p3, nI_add, nI_clamp, sx_ixN, if_true, Bool.false_eq_true, if_false, sx_let, Option.bind_some, Option.map_some, Mpages hc hk h, Mgiven hk h3]
  rfl
theorem Mwant {r c k : Nat} {day : Int32} (hc : c < 8) (hk : k < 4) (h : ¬ (m.1 2) (24 + 3 * k) = 0) (h3 : inN (m.1 2 39) 0 20) : F7_wantOf r (nI c) (nI k) day m = some (mm_want (m.1 2) (m.1 0 16) (m.1 r) c k day, m) := by
  unfold F7_wantOf F7_wantOf_31 mm_want
  simp only [Mjoys hc hk, sx_let, Option.bind_some, Option.map_some, Mstars hc hk h h3]
  simp only [px_ite]
  show some ((if m.1 2 38 = 1 then _ else _), m) = _
  split
  · rfl
  · rfl
theorem Mchoice {r c : Nat} {day : Int32} (hc : c < 8) (hT : okT (m.1 2)) : F7_choiceOf r (nI c) day m = some (mm_choice (m.1 2) (m.1 0 16) (m.1 3 0) (m.1 r) c day, m) := by
  obtain ⟨e41, h41⟩ := hT.ns
  unfold F7_choiceOf F7_choiceOf_17
  simp only [sx_let, Option.bind_some, Option.map_some]
  refine Ev.up (S := fun k => ((mm_ch (fun k => mm_want (m.1 2) (m.1 0 16) (m.1 r) c k day) (m.1 3 0) k).1, (mm_ch (fun k => mm_want (m.1 2) (m.1 0 16) (m.1 r) c k day) (m.1 3 0) k).2, nI k, m)) (N := mm_ns (m.1 2)) (fun k hk => ?_) ?_ (FU_gt (by omega)) rfl
  · have hw := Mwant (m := m) (r := r) (day := day) hc (show k < 4 by omega) ((hT.2.2.2.2.2.2.2 k hk).1.ne0 (by omega) (by omega)) hT.2.2.2.2.1
    have h1 : ¬ gI m 2 41 ≤ nI k := by
      show ¬ m.1 2 41 ≤ nI k
      rw [e41]
      exact nI_ge hk (by omega)
    simp only [F7_choiceOf_17b, F7_choiceOf_54, F7_choiceOf_70, if_neg h1, hw, sx_let, Option.bind_some, Option.map_some, mm_ch, nI_1]
    split <;> rfl
  · have h1 : gI m 2 41 ≤ nI (mm_ns (m.1 2)) := by
      show m.1 2 41 ≤ _
      rw [e41]
      exact nI_le (by omega) (by omega)
    simp only [F7_choiceOf_17b, if_pos h1]
    rfl
end MOD
