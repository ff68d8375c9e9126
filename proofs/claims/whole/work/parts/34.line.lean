/-! line -/
/-- side by side; the first may stop a step before the second does -/
theorem Ev2.loopE {σ τ ρ π : Type} {b1 : σ → Option (σ ⊕ ρ)} {b2 : τ → Option (τ ⊕ π)} {P : ρ → π → Prop} (I : Nat → σ → τ → Prop) (N : Nat) (hs : ∀ k s t, k < N → I k s t → Ev2 (b1 s) (b2 t) (fun x y => (∃ s2 t2, x = .inl s2 ∧ y = .inl t2 ∧ I (k + 1) s2 t2) ∨ ∃ u t2 v, x = .inr u ∧ y = .inl t2 ∧ b2 t2 = some (.inr v) ∧ P u v)) (he : ∀ s t, I N s t → Ev2 (b1 s) (b2 t) (fun x y => ∃ u v, x = .inr u ∧ y = .inr v ∧ P u v)) {s : σ} {t : τ} (h0 : I 0 s t) (hN : N + 1 < FU) : Ev2 (sx_loop b1 FU s) (sx_loop b2 FU t) P := by
  have key : ∀ (n k : Nat) (s : σ) (t : τ), I k s t → k ≤ N → N + 1 < k + n → Ev2 (sx_loop b1 n s) (sx_loop b2 n t) P := by
    intro n
    induction n with
    | zero => intro k s t _ h1 h2; omega
    | succ n ih =>
      intro k s t hI h1 h2
      show Ev2 ((b1 s).bind _) ((b2 t).bind _) P
      by_cases hk : k = N
      · subst hk
        obtain ⟨x, y, e1, e2, u, v, rfl, rfl, hp⟩ := he s t hI
        rw [e1, e2]
        exact ⟨u, v, rfl, rfl, hp⟩
      · obtain ⟨x, y, e1, e2, q⟩ := hs k s t (by omega) hI
        rw [e1, e2]
        rcases q with ⟨s2, t2, rfl, rfl, hi⟩ | ⟨u, t2, v, rfl, rfl, e3, hp⟩
        · exact ih (k + 1) s2 t2 hi (by omega) (by omega)
        · cases n with
          | zero => omega
          | succ n =>
            show Ev2 (some u) ((b2 t2).bind _) P
            rw [e3]
            exact ⟨u, v, rfl, rfl, hp⟩
  exact key FU 0 s t h0 (Nat.zero_le _) (by omega)
theorem FU_gt1 {n : Nat} (h : n + 1 < 1000) : n + 1 < FU := h
theorem px_l100 : (100 : Int32) = nI 100 := by decide
theorem px_l101 : (101 : Int32) = nI 101 := by decide
/-- the sheet with one child only -/
def mm_one (T : Nat → Int32) (a b c : Int32) : Nat → Int32 := upd (upd (upd (upd T 40 1) 1 b) 2 c) 0 a
theorem one_nc (T : Nat → Int32) (a b c : Int32) : mm_nc (mm_one T a b c) = 1 := by
  unfold mm_nc mm_one
  rw [upd_ne _ _ (by omega), upd_ne _ _ (by omega), upd_ne _ _ (by omega), upd_eq]
  decide
theorem one_ge (T : Nat → Int32) (a b c : Int32) {j : Nat} (h : 3 ≤ j) (h2 : j ≠ 40) : mm_one T a b c j = T j := by
  unfold mm_one
  rw [upd_ne _ _ (by omega), upd_ne _ _ (by omega), upd_ne _ _ (by omega), upd_ne _ _ (by omega)]
theorem one_40 (T : Nat → Int32) (a b c : Int32) : mm_one T a b c 40 = 1 := by
  unfold mm_one
  rw [upd_ne _ _ (by omega), upd_ne _ _ (by omega), upd_ne _ _ (by omega), upd_eq]
theorem one_012 (T : Nat → Int32) (a b c : Int32) : mm_one T a b c 0 = a ∧ mm_one T a b c 1 = b ∧ mm_one T a b c 2 = c := by
  unfold mm_one
  refine ⟨by rw [upd_eq], by rw [upd_ne _ _ (by omega), upd_ne _ _ (by omega), upd_eq], by rw [upd_ne _ _ (by omega), upd_eq]⟩
theorem one_ns (T : Nat → Int32) (a b c : Int32) : mm_ns (mm_one T a b c) = mm_ns T := by
  unfold mm_ns
  rw [one_ge _ _ _ _ (by omega) (by omega)]
theorem one_ok {T : Nat → Int32} (h : okT T) {a b c : Int32} (ha : inN a 0 100) (hb : inN b 1 9) (hc : inN c 0 9) : okT (mm_one T a b c) := by
  have h2 := h.ns.2
  unfold okT
  rw [one_nc, one_ns, one_40, one_ge _ _ _ _ (show 3 ≤ 41 by omega) (by omega), one_ge _ _ _ _ (show 3 ≤ 36 by omega) (by omega), one_ge _ _ _ _ (show 3 ≤ 37 by omega) (by omega), one_ge _ _ _ _ (show 3 ≤ 39 by omega) (by omega), one_ge _ _ _ _ (show 3 ≤ 38 by omega) (by omega)]
  obtain ⟨a1, a2, a3, a4, a5, a6, a7, a8⟩ := h
  refine ⟨⟨1, by omega, by omega, by decide⟩, a2, a3, a4, a5, a6, fun i hi => ?_, fun k hk => ?_⟩
  · obtain rfl : i = 0 := by omega
    obtain ⟨o1, o2, o3⟩ := one_012 T a b c
    exact ⟨by rw [show 3 * 0 = 0 from rfl, o1]; exact ha, by rw [show 3 * 0 + 1 = 1 from rfl, o2]; exact hb, by rw [show 3 * 0 + 2 = 2 from rfl, o3]; exact hc⟩
  · rw [one_ge _ _ _ _ (show 3 ≤ 24 + 3 * k by omega) (by omega), one_ge _ _ _ _ (show 3 ≤ 24 + 3 * k + 1 by omega) (by omega), one_ge _ _ _ _ (show 3 ≤ 24 + 3 * k + 2 by omega) (by omega)]
    exact a8 k hk
section LINE
variable {x m : SQ}
theorem px_01 : (0 : Int32) + 1 = 1 := by decide
theorem Xteach {T : Nat → Int32} (h : XT x 41 T) (hT : okT T) (a b c : Int32) : Ev (F4_teachOne 41 a b c x) (fun z => XT z.2 41 (mm_one T a b c) ∧ Only (fun o => 41 ≤ o ∧ o ≤ 47) x z.2) := by
  unfold F4_teachOne F4_addChild
  have h2 := hT.ns.2
  have i8 : sx_ix (0 : Int32) 8 = true := by decide
  have l8 : (0 : Int32) < 8 := by decide
  have c0 : (0 : Int32).toNatClampNeg = 0 := by decide
  simp (disch := omega) only [sx_let_e, bind_e, gI_def, sx_row, sx_row_ne, upd_eq, if_pos l8, if_pos i8, c0, px_01]
  refine Ev.ret ⟨?_, (((((Only.rf x).sI (by omega)).sI (by omega)).sI (by omega)).sI (by omega)).sI (by omega)⟩
  obtain ⟨x1, x2, x3, x4, x5, x6, x7, x8⟩ := h
  obtain ⟨o1, o2, o3⟩ := one_012 T a b c
  unfold XT
  rw [one_nc, one_ns, one_40, one_ge _ _ _ _ (show 3 ≤ 41 by omega) (by omega), one_ge _ _ _ _ (show 3 ≤ 36 by omega) (by omega), one_ge _ _ _ _ (show 3 ≤ 37 by omega) (by omega), one_ge _ _ _ _ (show 3 ≤ 39 by omega) (by omega), one_ge _ _ _ _ (show 3 ≤ 38 by omega) (by omega)]
  refine ⟨?_, ?_, ?_, ?_, ?_, ?_, fun i hi => ?_, fun s hs => ?_⟩
  · simp (disch := omega) only [sx_row, sx_row_ne, upd_eq]
  · simp (disch := omega) only [sx_row, sx_row_ne, upd_ne]; exact x2
  · simp (disch := omega) only [sx_row, sx_row_ne, upd_ne]; exact x3
  · simp (disch := omega) only [sx_row, sx_row_ne, upd_ne]; exact x4
  · simp (disch := omega) only [sx_row, sx_row_ne, upd_ne]; exact x5
  · simp (disch := omega) only [sx_row, sx_row_ne, upd_ne]; exact x6
  · obtain rfl : i = 0 := by omega
    rw [show 3 * 0 = 0 from rfl, show 0 + 1 = 1 from rfl, show 0 + 2 = 2 from rfl, o1, o2, o3]
    simp (disch := omega) only [sx_row, sx_row_ne, upd_eq]
    exact ⟨trivial, trivial, trivial⟩
  · rw [one_ge _ _ _ _ (show 3 ≤ 24 + 3 * s by omega) (by omega), one_ge _ _ _ _ (show 3 ≤ 24 + 3 * s + 1 by omega) (by omega), one_ge _ _ _ _ (show 3 ≤ 24 + 3 * s + 2 by omega) (by omega)]
    simp (disch := omega) only [sx_row_ne]
    exact x8 s hs
end LINE
