/-! days: type, now, anew, go -/
def Ev2 {α β : Type} (a : Option α) (b : Option β) (P : α → β → Prop) : Prop := ∃ r t, a = some r ∧ b = some t ∧ P r t
theorem Ev2.bind {α β γ δ : Type} {a : Option α} {b : Option β} {P : α → β → Prop} {f : α → Option γ} {g : β → Option δ} {Q : γ → δ → Prop} (h : Ev2 a b P) (k : ∀ r t, P r t → Ev2 (f r) (g t) Q) : Ev2 (a.bind f) (b.bind g) Q := by
  obtain ⟨r, t, rfl, rfl, hp⟩ := h
  exact k r t hp
theorem Ev2.bo {α : Type} {a b : Option (α × SQ)} (h : Ev2 a b (fun r t => r.1 = t.1 ∧ RR r.2 t.2)) : Bo a b := by
  obtain ⟨⟨r, y⟩, ⟨t, n⟩, e1, e2, e3, e4⟩ := h
  exact ⟨r, y, n, e1, by rw [e2, show r = t from e3], e4⟩
/-- two loops side by side -/
theorem Ev2.loop {σ τ ρ π : Type} {b1 : σ → Option (σ ⊕ ρ)} {b2 : τ → Option (τ ⊕ π)} {P : ρ → π → Prop} (I : Nat → σ → τ → Prop) (N : Nat) (hs : ∀ k s t, k < N → I k s t → Ev2 (b1 s) (b2 t) (fun x y => ∃ s2 t2, x = .inl s2 ∧ y = .inl t2 ∧ I (k + 1) s2 t2)) (he : ∀ s t, I N s t → Ev2 (b1 s) (b2 t) (fun x y => ∃ u v, x = .inr u ∧ y = .inr v ∧ P u v)) {s : σ} {t : τ} (h0 : I 0 s t) (hN : N < FU) : Ev2 (sx_loop b1 FU s) (sx_loop b2 FU t) P := by
  have key : ∀ (n k : Nat) (s : σ) (t : τ), I k s t → k ≤ N → N < k + n → Ev2 (sx_loop b1 n s) (sx_loop b2 n t) P := by
    intro n
    induction n with
    | zero => intro k s t _ h1 h2; omega
    | succ n ih =>
      intro k s t hI h1 h2
      show Ev2 ((b1 s).bind _) ((b2 t).bind _) P
      by_cases hk : k = N
      · subst hk
        obtain ⟨x, y, e1, e2, u, v, rfl, rfl, hp⟩ := he s t hI
        rw [e1, e2]
        exact ⟨u, v, rfl, rfl, hp⟩
      · obtain ⟨x, y, e1, e2, s2, t2, rfl, rfl, hp⟩ := hs k s t (by omega) hI
        rw [e1, e2]
        exact ih (k + 1) s2 t2 hp (by omega) (by omega)
  exact key FU 0 s t h0 (Nat.zero_le _) (by omega)
theorem Ev2.ret {α β : Type} {r : α} {t : β} {P : α → β → Prop} (h : P r t) : Ev2 (some r) (some t) P := ⟨r, t, rfl, rfl, h⟩
def mm_sum (f : Nat → Int32) : Nat → Int32
  | 0 => 0
  | n + 1 => mm_sum f n + f n
theorem mm_sum_cong {f g : Nat → Int32} : ∀ n, (∀ k, k < n → f k = g k) → mm_sum f n = mm_sum g n
  | 0, _ => rfl
  | n + 1, h => by rw [mm_sum, mm_sum, mm_sum_cong n (fun k hk => h k (by omega)), h n (by omega)]
theorem px_l8 : (8 : Int32) = nI 8 := by decide
theorem px_l42 : (42 : Int32) = nI 42 := by decide
theorem px_l99 : (99 : Int32) = nI 99 := by decide
theorem px_l400 : (400 : Int32) = nI 400 := by decide
def mm_beg (T S : Nat → Int32) : Nat → Nat → Int32
  | 0 => S
  | c + 1 => mm_put (mm_beg T S c) c (T (3 * c)) 0 0
def mm_begin (T S : Nat → Int32) : Nat → Int32 := mm_beg T (upd (upd S 0 0) 1 100) 8
theorem beg_far (T S : Nat → Int32) : ∀ (n j : Nat), (j < 3 ∨ 3 + 3 * n ≤ j) → mm_beg T S n j = S j
  | 0, _, _ => rfl
  | n + 1, j, h => by
    rw [mm_beg, mm_put, upd_ne _ _ (by omega), upd_ne _ _ (by omega), upd_ne _ _ (by omega)]
    exact beg_far T S n j (by omega)
theorem beg_at (T S : Nat → Int32) : ∀ (n c : Nat), c < n → mm_beg T S n (3 + 3 * c) = T (3 * c) ∧ mm_beg T S n (3 + 3 * c + 1) = 0 ∧ mm_beg T S n (3 + 3 * c + 2) = 0
  | 0, _, h => by omega
  | n + 1, c, h => by
    rw [mm_beg, mm_put]
    by_cases e : c = n
    · subst e
      refine ⟨?_, ?_, ?_⟩
      · rw [upd_ne _ _ (by omega), upd_ne _ _ (by omega), upd_eq]
      · rw [upd_ne _ _ (by omega), upd_eq]
      · rw [upd_eq]
    · have ih := beg_at T S n c (by omega)
      refine ⟨?_, ?_, ?_⟩
      · rw [upd_ne _ _ (by omega), upd_ne _ _ (by omega), upd_ne _ _ (by omega)]; exact ih.1
      · rw [upd_ne _ _ (by omega), upd_ne _ _ (by omega), upd_ne _ _ (by omega)]; exact ih.2.1
      · rw [upd_ne _ _ (by omega), upd_ne _ _ (by omega), upd_ne _ _ (by omega)]; exact ih.2.2
theorem begin_0 (T S : Nat → Int32) : mm_begin T S 0 = 0 ∧ mm_begin T S 1 = 100 ∧ mm_begin T S 2 = S 2 := by
  refine ⟨?_, ?_, ?_⟩
  · rw [mm_begin, beg_far _ _ _ _ (by omega), upd_ne _ _ (by omega), upd_eq]
  · rw [mm_begin, beg_far _ _ _ _ (by omega), upd_eq]
  · rw [mm_begin, beg_far _ _ _ _ (by omega), upd_ne _ _ (by omega), upd_ne _ _ (by omega)]
theorem begin_at (T S : Nat → Int32) {c : Nat} (h : c < 8) : mm_begin T S (3 + 3 * c) = T (3 * c) ∧ mm_begin T S (3 + 3 * c + 1) = 0 ∧ mm_begin T S (3 + 3 * c + 2) = 0 := beg_at _ _ 8 c h
theorem begin_ok {T : Nat → Int32} (hT : okT T) (S : Nat → Int32) : okS T (mm_begin T S) := by
  refine ⟨?_, fun c hc => ?_⟩
  · rw [(begin_0 T S).2.1]
    exact ⟨100, by omega, by omega, rfl⟩
  · have := hT.nc.2
    rw [(begin_at T S (by omega)).1]
    exact (hT.2.2.2.2.2.2.1 c hc).1
theorem day_2 {T : Nat → Int32} {bare : Int32} {U S : Nat → Int32} : (mm_day T bare U S).1 2 = S 2 := by
  simp only [mm_day]
  rw [upd_ne _ _ (by omega), upd_ne _ _ (by omega), kids_far _ _ (by omega)]
section CALLS2
variable {x m : SQ}
theorem XsumOf {r n : Nat} (hn : n ≤ 8) : F0_sumOf r (nI n) x = some (mm_sum (x.1 r) n, x) := by
  unfold F0_sumOf F0_sumOf_4
  refine Ev.up (S := fun c => (mm_sum (x.1 r) c, nI c, x)) (N := n) (fun c hc => ?_) ?_ (FU_gt (by omega)) rfl
  · simp only [F0_sumOf_4b, F0_sumOf_27, if_neg (nI_ge hc (show n < 2 ^ 31 by omega)), px_l8, if_neg (nI_ge (show c < 8 by omega) (by omega))]
    simp (disch := omega) only [Int32.add_zero, px_m3, px_a3, px_a24, px_a36, px_a42, px_m27, px_p1, px_p2, px_p3, nI_add, nI_clamp, sx_ixN, if_true, Bool.false_eq_true, if_false, sx_let, Option.bind_some, Option.map_some, gI_def]
    rfl
  · simp only [F0_sumOf_4b, if_pos (nI_le (Nat.le_refl n) (show n < 2 ^ 31 by omega)), F0_sumOf_27]
theorem MallOf {r w : Nat} (hT : okT (m.1 2)) (hw : w ≤ 2) : F7_allOf r (nI w) m = some (mm_sum (fun c => m.1 r (3 + 3 * c + w)) (mm_nc (m.1 2)), m) := by
  obtain ⟨e40, h40⟩ := hT.nc
  unfold F7_allOf F7_allOf_5
  refine Ev.up (S := fun c => (mm_sum (fun c => m.1 r (3 + 3 * c + w)) c, nI c, m)) (N := mm_nc (m.1 2)) (fun c hc => ?_) ?_ (FU_gt (by omega)) rfl
  · have h1 : ¬ m.1 2 40 ≤ nI c := by
      rw [e40]
      exact nI_ge hc (by omega)
    simp (disch := omega) only [F7_allOf_5b, gI_def, if_neg h1, Int32.add_zero, px_m3, px_a3, px_a24, px_a36, px_a42, px_m27, px_p1, px_p2, px_p3, nI_add, nI_clamp, sx_ixN, if_true, Bool.false_eq_true, if_false, sx_let, Option.bind_some, Option.map_some]
    rfl
  · have h1 : m.1 2 40 ≤ nI (mm_nc (m.1 2)) := by
      rw [e40]
      exact nI_le (by omega) (by omega)
    simp only [F7_allOf_5b, gI_def, if_pos h1]
    rfl
theorem now_bo (h : RR x m) (w : Int32) : Bo (F6_now w x) (F7_now w m) := by
  unfold F7_now
  simp only [sx_let, Option.bind_some, Option.map_some]
  have h := h.t0
  generalize sI m 0 0 0 = m at h ⊢
  have hT := h.1.1
  have hX := h.1.2
  obtain ⟨r0, r1, r2⟩ := h.2.2.1.1
  obtain ⟨e40, h40⟩ := hT.nc
  unfold F6_now
  simp only [Min, sx_let, Option.bind_some, Option.map_some, gI_def, hX.1, e40, XsumOf h40, r0, r1]
  rcases wi_lit w (a := 0) (b := 4) (by omega) (by omega) 0 4 rfl rfl with ⟨i, -, hi, rfl, e2⟩ | ⟨e2, hne⟩
  · rw [e2]
    simp only [show ¬ ((1 : Int32) = 0) from by decide, if_false]
    rcases (show i = 0 ∨ i = 1 ∨ i = 2 ∨ i = 3 ∨ i = 4 by omega) with rfl | rfl | rfl | rfl | rfl
    · simp (decide := true) (disch := omega) only [Int32.add_zero, px_m3, px_a3, px_a24, px_a36, px_a42, px_m27, px_p1, px_p2, px_p3, nI_add, nI_clamp, sx_ixN, if_true, Bool.false_eq_true, if_false, nI_0]
      exact Bo.ret h
    · simp (decide := true) (disch := omega) only [Int32.add_zero, px_m3, px_a3, px_a24, px_a36, px_a42, px_m27, px_p1, px_p2, px_p3, nI_add, nI_clamp, sx_ixN, if_true, Bool.false_eq_true, if_false, nI_0]
      exact Bo.ret h
    · have e : nI 2 - (2 : Int32) = nI 0 := by decide
      rw [e, MallOf hT (by omega)]
      simp (decide := true) (disch := omega) only [sx_let, Option.bind_some, Option.map_some, if_true, if_false]
      exact Bo.ret2 (mm_sum_cong _ (fun c hc => (r2 c hc).1)) h
    · have e : nI 3 - (2 : Int32) = nI 1 := by decide
      rw [e, MallOf hT (by omega)]
      simp (decide := true) (disch := omega) only [sx_let, Option.bind_some, Option.map_some, if_true, if_false]
      exact Bo.ret2 (mm_sum_cong _ (fun c hc => (r2 c hc).2.1)) h
    · have e : nI 4 - (2 : Int32) = nI 2 := by decide
      rw [e, MallOf hT (by omega)]
      simp (decide := true) (disch := omega) only [sx_let, Option.bind_some, Option.map_some, if_true, if_false]
      exact Bo.ret2 (mm_sum_cong _ (fun c hc => (r2 c hc).2.2)) h
  · rw [e2]
    have n0 : ¬ w = 0 := hne 0 (by omega) (by omega)
    have n1 : ¬ w = 1 := hne 1 (by omega) (by omega)
    have n2 : ¬ w = 2 := hne 2 (by omega) (by omega)
    have n3 : ¬ w = 3 := hne 3 (by omega) (by omega)
    have n4 : ¬ w = 4 := hne 4 (by omega) (by omega)
    rw [if_neg n0, if_neg n1, if_neg n2, if_neg n3, if_neg n4, if_pos rfl]
    exact Bo.ret h
end CALLS2
