/-! the class cuts the text -/
def Seq (t : Nat → Int32) (n K : Nat) (P : Nat → Nat) (C : Nat → Int32) (E : Nat → Nat) : Prop := K ≤ n ∧ E 0 = 0 ∧ (∀ j, j ≤ K → Tok t n (E j) (P j) (C j) (E (j + 1))) ∧ (∀ j, j < K → P j < n) ∧ P K = n
def updN (f : Nat → Nat) (k v : Nat) : Nat → Nat := fun j => if j = k then v else f j
theorem updN_eq (f : Nat → Nat) (k v : Nat) : updN f k v k = v := by unfold updN; rw [if_pos rfl]
theorem updN_ne (f : Nat → Nat) {k j : Nat} (v : Nat) (h : j ≠ k) : updN f k v j = f j := by unfold updN; rw [if_neg h]
section CUT
variable {x : SQ}
theorem Xcut {n : Nat} {t : Nat → Int32} (hn : n ≤ 400) (hx : x.1 8 0 = nI n) (ht : ∀ i, i < n → x.1 9 i = t i) (hB : ∀ i, i < n → inN (t i) 0 255) : Ev (F3_cut x) (fun z => ∃ K P C E, Seq t n K P C E ∧ (∀ j, j ≤ K → z.2.1 17 j = C j ∧ z.2.1 18 j = nI (P j)) ∧ Only (fun o => o = 17 ∨ o = 18) x z.2) := by
  unfold F3_cut F3_cut_6
  refine Ev.loop (fun k s => ∃ (i : Nat) (P : Nat → Nat) (C : Nat → Int32) (E : Nat → Nat) (y : SQ), s = (nI i, nI (E i), nI k, y) ∧ i ≤ k ∧ E 0 = 0 ∧ E i ≤ n ∧ (∀ j, j < i → Tok t n (E j) (P j) (C j) (E (j + 1)) ∧ P j < n ∧ y.1 17 j = C j ∧ y.1 18 j = nI (P j)) ∧ (∀ p, E i ≤ p → p < k → t p = 32) ∧ Only (fun o => o = 17 ∨ o = 18) x y) n (fun k s hk hI => ?_) (fun s hI => ?_) ⟨0, fun _ => 0, fun _ => 0, fun _ => 0, x, by rw [nI_0], by omega, rfl, Nat.zero_le _, fun j hj => by omega, fun p _ hp => by omega, Only.rf x⟩ (FU_gt (by omega))
  · obtain ⟨i, P, C, E, y, rfl, hik, hE0, hEn, hT, hbl, hO⟩ := hI
    have y8 : y.1 8 0 = nI n := by rw [hO.1 8 (by omega), hx]
    have y9 : ∀ i, i < n → y.1 9 i = t i := fun i hi => by rw [hO.1 9 (by omega), ht i hi]
    have f1 : ¬ nI n ≤ nI k := nI_ge hk (by omega)
    by_cases q1 : k < E i
    · have f2 : nI k < nI (E i) := nI_lt q1 (by omega)
      simp only [F3_cut_6b, F3_cut_58, gI_def, y8, if_neg f1, if_pos f2, sx_let_e, px_p1]
      exact Ev.ret (Or.inl ⟨_, rfl, i, P, C, E, y, rfl, by omega, hE0, hEn, hT, fun p a b => by omega, hO⟩)
    · have f2 : ¬ nI k < nI (E i) := nI_nlt (by omega) (by omega)
      have i4 : sx_ix (nI k) 400 = true := sx_ixN (by omega) (by omega)
      by_cases q2 : t k = 32
      · simp only [F3_cut_6b, F3_cut_58, gI_def, y8, if_neg f1, if_neg f2, if_pos i4, nI_clamp (show k < 2 ^ 31 by omega), y9 k hk, if_pos q2, sx_let_e, px_p1]
        refine Ev.ret (Or.inl ⟨_, rfl, i, P, C, E, y, rfl, by omega, hE0, hEn, hT, fun p a b => ?_, hO⟩)
        by_cases z : p = k
        · rw [z]; exact q2
        · exact hbl p a (by omega)
      · obtain ⟨s, code, e, hTok⟩ := tok_ex hn hEn hB
        have hTok2 := hTok
        obtain ⟨a1, a2, a3, a4, a5, -⟩ := hTok
        have hsk : s = k := by
          rcases Nat.lt_trichotomy s k with g | g | g
          · exact absurd (hbl s a1 g) (a5 (by omega)).2.2.1
          · exact g
          · exact absurd (a3 k (by omega) g) q2
        subst hsk
        obtain ⟨b1, b2, b3, b4, b5⟩ := a5 hk
        obtain ⟨r1, r2⟩ := b5 y y8 y9
        have j4 : sx_ix (nI i) 401 = true := sx_ixN (by omega) (by omega)
        simp only [F3_cut_6b, F3_cut_58, gI_def, y8, if_neg f1, if_neg f2, if_pos i4, if_pos j4, nI_clamp (show s < 2 ^ 31 by omega), nI_clamp (show i < 2 ^ 31 by omega), y9 s hk, if_neg q2, r1, r2, bind_e, sx_let_e, px_p1]
        refine Ev.ret (Or.inl ⟨_, rfl, i + 1, updN P i s, upd C i code, updN E (i + 1) e, _, by rw [updN_eq], by omega, by rw [updN_ne _ _ (by omega)]; exact hE0, by rw [updN_eq]; exact b2, fun j hj => ?_, fun p h1 h2 => ?_, (hO.sI (by omega)).sI (by omega)⟩)
        · by_cases z : j = i
          · subst z
            refine ⟨?_, by rw [updN_eq]; exact hk, ?_, ?_⟩
            · rw [updN_ne _ _ (show j ≠ j + 1 by omega), updN_eq, upd_eq, updN_eq]
              exact hTok2
            · rw [sx_row_ne _ _ _ (by omega), sx_row, upd_eq, upd_eq]
            · rw [sx_row, upd_eq, updN_eq]
          · obtain ⟨c1, c2, c3, c4⟩ := hT j (by omega)
            refine ⟨?_, by rw [updN_ne _ _ z]; exact c2, ?_, ?_⟩
            · rw [updN_ne _ _ (show j ≠ i + 1 by omega), updN_ne _ _ z, upd_ne _ _ z, updN_ne _ _ (show j + 1 ≠ i + 1 by omega)]
              exact c1
            · rw [sx_row_ne _ _ _ (by omega), sx_row, upd_ne _ _ z, upd_ne _ _ z, c3]
            · rw [sx_row, upd_ne _ _ z, sx_row_ne _ _ _ (by omega), c4, updN_ne _ _ z]
        · rw [updN_eq] at h1
          omega
  · obtain ⟨i, P, C, E, y, rfl, hik, hE0, hEn, hT, hbl, hO⟩ := hI
    have y8 : y.1 8 0 = nI n := by rw [hO.1 8 (by omega), hx]
    have f1 : nI n ≤ nI n := Int32.le_refl _
    have j4 : sx_ix (nI i) 401 = true := sx_ixN (by omega) (by omega)
    obtain ⟨s, code, e, hTok⟩ := tok_ex hn hEn hB
    have hTok2 := hTok
    obtain ⟨a1, a2, a3, a4, a5, -⟩ := hTok
    have hsn : s = n := by
      rcases Nat.lt_or_ge s n with g | g
      · exact absurd (hbl s a1 g) (a5 g).2.2.1
      · omega
    have hc : code = -8 := a4 hsn
    subst hsn
    have g8 : ∀ v, (sI y 17 i v).1 8 0 = nI s := fun v => by rw [sx_row_ne _ _ _ (by omega), y8]
    simp only [F3_cut_6b, gI_def, y8, if_pos f1, if_pos j4, nI_clamp (show i < 2 ^ 31 by omega), sx_let_e, g8]
    refine Ev.ret ⟨_, rfl, i, updN P i s, upd C i (-8), updN E (i + 1) e, ⟨hik, by rw [updN_ne _ _ (by omega)]; exact hE0, fun j hj => ?_, fun j hj => ?_, by rw [updN_eq]⟩, fun j hj => ?_, (hO.sI (by omega)).sI (by omega)⟩
    · by_cases z : j = i
      · subst z
        rw [updN_ne _ _ (show j ≠ j + 1 by omega), updN_eq, upd_eq, updN_eq, ← hc]
        exact hTok2
      · rw [updN_ne _ _ (show j ≠ i + 1 by omega), updN_ne _ _ z, upd_ne _ _ z, updN_ne _ _ (show j + 1 ≠ i + 1 by omega)]
        exact (hT j (by omega)).1
    · rw [updN_ne _ _ (by omega)]
      exact (hT j hj).2.1
    · by_cases z : j = i
      · subst z
        exact ⟨by rw [sx_row_ne _ _ _ (by omega), sx_row, upd_eq, upd_eq], by rw [sx_row, upd_eq, updN_eq]⟩
      · obtain ⟨c1, c2, c3, c4⟩ := hT j (by omega)
        exact ⟨by rw [sx_row_ne _ _ _ (by omega), sx_row, upd_ne _ _ z, upd_ne _ _ z, c3], by rw [sx_row, upd_ne _ _ z, sx_row_ne _ _ _ (by omega), c4, updN_ne _ _ z]⟩
end CUT
