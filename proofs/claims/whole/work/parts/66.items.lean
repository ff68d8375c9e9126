/-! all items, on both sides -/
/-- two loops side by side: both go on, both end, or the first ends one round ahead -/
theorem Ev2.loopC {σ τ ρ π : Type} {b1 : σ → Option (σ ⊕ ρ)} {b2 : τ → Option (τ ⊕ π)} {P : ρ → π → Prop} (I : Nat → σ → τ → Prop) (N : Nat) (hs : ∀ k s t, k ≤ N → I k s t → Ev2 (b1 s) (b2 t) (fun x y => (∃ s2 t2, x = .inl s2 ∧ y = .inl t2 ∧ k < N ∧ I (k + 1) s2 t2) ∨ (∃ u v, x = .inr u ∧ y = .inr v ∧ P u v) ∨ ∃ u t2 v, x = .inr u ∧ y = .inl t2 ∧ b2 t2 = some (.inr v) ∧ P u v)) {s : σ} {t : τ} (h0 : I 0 s t) (hN : N + 1 < FU) : Ev2 (sx_loop b1 FU s) (sx_loop b2 FU t) P := by
  have key : ∀ (n k : Nat) (s : σ) (t : τ), I k s t → k ≤ N → N + 1 < k + n → Ev2 (sx_loop b1 n s) (sx_loop b2 n t) P := by
    intro n
    induction n with
    | zero => intro k s t _ h1 h2; omega
    | succ n ih =>
      intro k s t hI h1 h2
      show Ev2 ((b1 s).bind _) ((b2 t).bind _) P
      obtain ⟨x, y, e1, e2, q⟩ := hs k s t h1 hI
      rw [e1, e2]
      rcases q with ⟨s2, t2, rfl, rfl, hk, hi⟩ | ⟨u, v, rfl, rfl, hp⟩ | ⟨u, t2, v, rfl, rfl, e3, hp⟩
      · exact ih (k + 1) s2 t2 hi (by omega) (by omega)
      · exact ⟨u, v, rfl, rfl, hp⟩
      · cases n with
        | zero => omega
        | succ n =>
          show Ev2 (some u) ((b2 t2).bind _) P
          rw [e3]
          exact ⟨u, v, rfl, rfl, hp⟩
  exact key FU 0 s t h0 (Nat.zero_le _) (by omega)
section ITEMS3
variable {t : Nat → Int32} {n K : Nat} {P : Nat → Nat} {C : Nat → Int32} {E : Nat → Nat}
theorem fa_205 {f : Nat} {v : Int32} {m : SQ} (h : FA f m) : F7_chart_205 v m = some (-10 - nI f, m) := by
  unfold F7_chart_205
  simp only [fa_well h, bind_e, if_true, gI_def, h.1]
theorem fa_27 {f : Nat} {v1 v2 : Int32} {m : SQ} (h : FA f m) : F7_chart_27b v1 v2 m = some (.inr (-10 - nI f, m)) := by
  unfold F7_chart_27b
  simp only [fa_well h, bind_e, if_true, fa_205 h, Option.map_some]
/-- the model, where all is told -/
def adp (z : SQ) : SQ := sI (sA (sI (sI (sA z 2 (mm_ad (z.1 2) 42)) 6 0 0) 6 1 0) 4 (mm_begin (mm_ad (z.1 2) 42) (z.1 4))) 0 3 0
theorem M205 {v : Int32} {z : SQ} (h : z.1 0 8 = -1) : F7_chart_205 v z = some (v, adp z) := by
  have w : F7_isWell z = some (1, z) := by
    unfold F7_isWell
    rw [gI_def, h, if_neg (by decide)]
  have n1 : ¬ (1 : Int32) = 0 := by decide
  unfold F7_chart_205 adp
  simp only [w, bind_e, if_neg n1, Madopts, sx_let_e]
/-- what the items come to: all told, or a fault -/
def IT (K : Nat) (P : Nat → Nat) (y0 n0 : SQ) (u v : Int32 × SQ) : Prop :=
  (∃ k z, k ≤ 400 ∧ u.1 = nI k ∧ v = (nI k, adp z) ∧ CF y0 u.2 ∧ MF n0 z ∧ DR u.2 z) ∨
  (∃ j, j ≤ K ∧ u.1 = -1 ∧ v.1 = -10 - nI (P j) ∧ u.2.1 8 5 = nI j ∧ CF y0 u.2 ∧ MF n0 v.2 ∧ u.2.1 18 j = nI (P j))
theorem items_both {y0 n0 : SQ} (hS : Seq t n K P C E) (hn : n ≤ 400) (h : AT t n K P C E 0 y0 n0) (hD : DR y0 n0) (h6 : y0.1 8 6 = 0) : Ev2 (F3_readItems_23 0 y0) (F7_chart_27 0 0 n0) (IT K P y0 n0) := by
  have hK := hS.1
  have n1 : ¬ (1 : Int32) = 0 := by decide
  have l4 : ∀ k, k ≤ 400 → ¬ (400 : Int32) < nI k := fun k hk => by rw [px_l400]; exact nI_nlt hk (by omega)
  have fin : ∀ (k j : Nat) (y z : SQ), k ≤ 400 → AT t n K P C E j y z → DR y z → CF y0 y → MF n0 z → C j = -8 → F3_readItems_23b (nI k) y = some (.inr (nI k, y)) ∧ F7_chart_27b (nI k) (y.1 8 6) z = some (.inr (nI k, adp z)) ∧ IT K P y0 n0 (nI k, y) (nI k, adp z) := by
    intro k j y z hk hA hDR hC hM hc
    have tok : z.1 0 5 = 0 := by
      rcases hA.2.2.2.2.2.2.2.2.2 with ⟨c1, c2⟩ | ⟨c1, c2⟩ | ⟨c1, c2⟩ | ⟨w, c0, c1, c2, c3⟩ | ⟨v, c0, c1, c2, c3⟩
      · exact c2
      · rw [c1] at hc; exact absurd hc (by decide)
      · rw [c1] at hc; exact absurd hc (by decide)
      · rw [c1] at hc
        rcases (show w = 0 ∨ w = 1 ∨ w = 2 ∨ w = 3 ∨ w = 4 ∨ w = 5 by omega) with rfl | rfl | rfl | rfl | rfl | rfl <;> exact absurd hc (by decide)
      · rw [c1] at hc
        exact absurd (show nI v < 0 by rw [hc]; decide) (nI_pos (by omega))
    refine ⟨?_, ?_, Or.inl ⟨k, z, hk, rfl, rfl, hC, hM, hDR⟩⟩
    · unfold F3_readItems_23b
      simp only [if_neg (l4 k hk), Xseen hA hS hn, bind_e, hc, if_true]
    · unfold F7_chart_27b
      simp only [Mwell hA, bind_e, if_neg n1, gI_def, tok, if_true, M205 hA.2.2.2.2.1, Option.map_some]
  unfold F3_readItems_23 F7_chart_27
  refine Ev2.loopC (fun k s u => ∃ j y z, s = (nI k, y) ∧ u = (nI k, y.1 8 6, z) ∧ k ≤ j ∧ AT t n K P C E j y z ∧ DR y z ∧ CF y0 y ∧ MF n0 z ∧ (y.1 8 6 = 0 ∨ y.1 8 6 = 1)) K (fun k s u hk hI => ?_) ⟨0, y0, n0, by rw [nI_0], by rw [nI_0, h6], by omega, h, hD, cf_rf y0, mf_rf n0, Or.inl h6⟩ (FU_gt1 (by omega))
  obtain ⟨j, y, z, rfl, rfl, hkj, hA, hDR, hC, hM, hb⟩ := hI
  by_cases hc : C j = -8
  · obtain ⟨a, b, c⟩ := fin k j y z (by omega) hA hDR hC hM hc
    exact ⟨_, _, a, b, Or.inr (Or.inl ⟨_, _, rfl, rfl, c⟩)⟩
  · rcases gate_both hA hS hn hDR hc (nI k) rfl hb with ⟨y', z', j', q0, q1, q2, q3, q4, q5, q6, q7⟩ | ⟨y', z', j', v3, q1, q2, q3, q4, q5, q6, q7⟩
    · have hx : ∀ r y2, F3_readWord (-7) y' = some (r, y2) → F3_readItems_23b (nI k) y = if r = 0 then some (.inr (-1, y2)) else some (.inl (nI (k + 1), y2)) := fun r y2 e => by
        unfold F3_readItems_23b F3_readItems_57
        simp only [if_neg (l4 k (by omega)), Xseen hA hS hn, bind_e, if_neg hc, q1, if_neg n1, e, sx_let_e, px_p1, Option.map_some]
      rcases semi_both (v1 := nI k) (v2 := y'.1 8 6) q3 hS hn with ⟨z2, r1, r2, r3, r4⟩ | ⟨r1, r2⟩
      · refine ⟨_, _, (hx _ _ r1).trans (if_neg n1), q2.trans r2, Or.inl ⟨_, _, rfl, rfl, by have := r4.1; omega, j' + 1, sI y' 8 5 (nI (j' + 1)), z2, rfl, ?_, by omega, r4, q4.next r3, cf_8 (cf_tr hC q5) (by omega), mf_tr (mf_tr hM q6) (mf_fx r3), ?_⟩⟩
        · rw [px_p1, sx_row, upd_ne _ _ (show 6 ≠ 5 by omega)]
        · rw [sx_row, upd_ne _ _ (show 6 ≠ 5 by omega)]
          exact q7
      · refine ⟨_, _, (hx _ _ r1).trans (if_pos rfl), q2.trans r2, Or.inr (Or.inr ⟨_, _, _, rfl, rfl, fa_27 (q3.fa hS hn), Or.inr ⟨j', q3.1, rfl, rfl, q3.2.1, cf_tr hC q5, mf_8 (mf_tr hM q6), (q3.2.2.2.1 j' q3.1).2⟩⟩)⟩
    · have hx : F3_readItems_23b (nI k) y = some (.inr (-1, y')) := by
        unfold F3_readItems_23b F3_readItems_57
        simp only [if_neg (l4 k (by omega)), Xseen hA hS hn, bind_e, if_neg hc, q2, if_true, Option.map_some]
      refine ⟨_, _, hx, q3.trans (fa_181 q5), Or.inr (Or.inr ⟨_, _, _, rfl, rfl, fa_27 q5, Or.inr ⟨j', q1, rfl, rfl, q4, cf_tr hC q6, mf_tr hM q7, ?_⟩⟩)⟩
      rw [q6.1.1 18 (by omega)]
      exact (hA.2.2.2.1 j' q1).2
end ITEMS3
