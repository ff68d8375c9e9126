/-! one token, on both sides -/
def TK (code tok val : Int32) : Prop := (code = -8 ∧ tok = 0) ∨ (code = -7 ∧ tok = 3) ∨ (code = -9 ∧ tok = 4) ∨ (∃ w, w < 6 ∧ code = -1 - nI w ∧ tok = 1 ∧ val = nI w) ∨ (∃ v, v ≤ 100 ∧ code = nI v ∧ tok = 2 ∧ val = nI v)
theorem m6_le (k : Nat) : m6 k ≤ 6 := by unfold m6; split <;> omega
section TOK
variable {x m : SQ}
theorem M68 {n s e : Nat} {t : Nat → Int32} (hx : m.1 0 3 = nI n) (hn : n ≤ 400) (ht : m.1 1 = t) (hs : s < e) (he : e ≤ n) (h1 : ∀ i, s ≤ i → i < e → isL (t i)) (h2 : ¬ isL (mm_by t n e)) (e4 : m.1 0 4 = nI s) (e6 : m.1 0 6 = nI s) : Ev (F7_advances_68 0 m) (fun z => Fx m z.2 ∧ z.2.1 0 4 = nI e ∧ z.2.1 0 6 = nI s ∧ ((mm_wv (mm_pk (mm_b t s) (m6 (e - s))) = -9 ∧ z.2.1 0 5 = 4) ∨ (¬ mm_wv (mm_pk (mm_b t s) (m6 (e - s))) = -9 ∧ z.2.1 0 5 = 1 ∧ z.2.1 0 7 = mm_wv (mm_pk (mm_b t s) (m6 (e - s)))))) := by
  have hbb : ∀ i, i < e - s → 97 ≤ mm_b t s i ∧ mm_b t s i ≤ 122 ∧ t (s + i) = nI (mm_b t s i) := fun i hi => b_of (h1 (s + i) (by omega) (by omega))
  unfold F7_advances_68
  refine Ev.loop (fun k st => ∃ y, st = (lN (mm_pk (mm_b t s) (m6 k)), y) ∧ Fx m y ∧ y.1 0 4 = nI (s + k) ∧ y.1 0 6 = nI s) (e - s) (fun k st hk hI => ?_) (fun st hI => ?_) ⟨m, by rw [show lN (mm_pk (mm_b t s) (m6 0)) = (0 : Int64) from rfl], fx_rf m, e4, e6⟩ (FU_gt (by omega))
  · obtain ⟨y, rfl, hF, y4, y6⟩ := hI
    have y3 : y.1 0 3 = nI n := by rw [hF.2.2 3 (by omega), hx]
    have y1 : y.1 1 = t := by rw [hF.1 1 (by omega), ht]
    have hb := MbyteAt (m := y) (p := s + k) y3 hn (by omega)
    have hd := h1 (s + k) (by omega) (by omega)
    rw [y1, by_lt (show s + k < n by omega)] at hb
    have hw : wi (t (s + k)) 97 122 = 1 := hd
    obtain ⟨a, b, c⟩ := hbb k hk
    have sub : nI (s + k) - nI s = nI k := by rw [pk_sub (by omega), show s + k - s = k by omega]
    simp only [F7_advances_68b, F7_advances_116, gI_def, y4, y6, hb, bind_e, Min, hw, show ¬ ((1 : Int32) = 0) from by decide, if_false, sub, px_p1, sx_let_e]
    by_cases q : k < 6
    · have q2 : ¬ (6 : Int32) ≤ nI k := by rw [show (6 : Int32) = nI 6 from by decide]; exact nI_ge q (by omega)
      have q3 : ¬ nI (mm_b t s k) = (0 : Int32) := by rw [← nI_0]; exact fun z => by have := (nI_eq (by omega) (by omega)).mp z; omega
      have ek : m6 k = k := by unfold m6; rw [if_pos q]
      have ek1 : m6 (k + 1) = k + 1 := by unfold m6; split <;> omega
      rw [if_neg q2]
      simp only [Madd, bind_e, c, if_neg q3, y4, px_p1]
      refine Ev.ret (Or.inl ⟨_, rfl, sI y 0 4 (nI (s + k + 1)), ?_, fx_s hF (by omega), ?_, ?_⟩)
      · rw [ek, ek1, mm_pk, nI_l (by omega), show (256 : Int64) = lN 256 from by decide, lN_mul, lN_add]
      · rw [sx_row, upd_eq, show s + k + 1 = s + (k + 1) by omega]
      · rw [sx_row, upd_ne _ _ (by omega), y6]
    · have q2 : (6 : Int32) ≤ nI k := by rw [show (6 : Int32) = nI 6 from by decide]; exact nI_le (by omega) (by omega)
      have ek : m6 (k + 1) = m6 k := by unfold m6; rw [if_neg q, if_neg (by omega)]
      rw [if_pos q2]
      refine Ev.ret (Or.inl ⟨_, rfl, sI y 0 4 (nI (s + k + 1)), by rw [ek], fx_s hF (by omega), ?_, ?_⟩)
      · rw [sx_row, upd_eq, show s + k + 1 = s + (k + 1) by omega]
      · rw [sx_row, upd_ne _ _ (by omega), y6]
  · obtain ⟨y, rfl, hF, y4, y6⟩ := hI
    rw [show s + (e - s) = e by omega] at y4
    have y3 : y.1 0 3 = nI n := by rw [hF.2.2 3 (by omega), hx]
    have y1 : y.1 1 = t := by rw [hF.1 1 (by omega), ht]
    have hb := MbyteAt (m := y) (p := e) y3 hn (by omega)
    rw [y1] at hb
    have hlt := pkN_lt (b := mm_b t s) (m6 (e - s)) (fun i hi => by
      have h6 : m6 (e - s) ≤ e - s := by unfold m6; split <;> omega
      have := hbb i (by omega)
      omega)
    have h63 : 256 ^ m6 (e - s) ≤ 256 ^ 6 := Nat.pow_le_pow_right (by omega) (m6_le _)
    have hw := MwordOf (m := y) (v := mm_pk (mm_b t s) (m6 (e - s))) (by omega)
    simp only [F7_advances_68b, F7_advances_153, gI_def, y4, hb, bind_e, Min, isL_n h2, if_true, hw, sx_let_e, sx_row, upd_eq, Option.map_some]
    by_cases q : mm_wv (mm_pk (mm_b t s) (m6 (e - s))) = -9
    · rw [if_pos q]
      refine Ev.ret ⟨_, rfl, fx_s (fx_s hF (by omega)) (by omega), ?_, ?_, Or.inl ⟨q, by rw [sx_row, upd_eq]⟩⟩
      · rw [sx_row, upd_ne _ _ (by omega), sx_row, upd_ne _ _ (by omega), y4]
      · rw [sx_row, upd_ne _ _ (by omega), sx_row, upd_ne _ _ (by omega), y6]
    · rw [if_neg q]
      refine Ev.ret ⟨_, rfl, fx_s (fx_s hF (by omega)) (by omega), ?_, ?_, Or.inr ⟨q, by rw [sx_row, upd_eq], ?_⟩⟩
      · rw [sx_row, upd_ne _ _ (by omega), sx_row, upd_ne _ _ (by omega), y4]
      · rw [sx_row, upd_ne _ _ (by omega), sx_row, upd_ne _ _ (by omega), y6]
      · rw [sx_row, upd_ne _ _ (by omega), sx_row, upd_eq]
/-- the class's word -/
def mm_cw (v : Nat) : Int32 := if v = mm_pk (mm_c 0) 5 then -1 else if v = mm_pk (mm_c 1) 4 then -2 else if v = mm_pk (mm_c 2) 4 then -3 else if v = mm_pk (mm_c 3) 5 then -4 else if v = mm_pk (mm_c 4) 4 then -5 else if v = mm_pk (mm_c 5) 3 then -6 else -9
theorem cw_wv (v : Nat) : (mm_wv v = -9 ∧ mm_cw v = -9) ∨ ∃ w, w < 6 ∧ mm_wv v = nI w ∧ mm_cw v = -1 - nI w := by
  unfold mm_wv mm_cw
  by_cases k0 : v = mm_pk (mm_c 0) 5
  · rw [if_pos k0, if_pos k0]; exact Or.inr ⟨0, by omega, by decide, by decide⟩
  · rw [if_neg k0, if_neg k0]
    by_cases k1 : v = mm_pk (mm_c 1) 4
    · rw [if_pos k1, if_pos k1]; exact Or.inr ⟨1, by omega, by decide, by decide⟩
    · rw [if_neg k1, if_neg k1]
      by_cases k2 : v = mm_pk (mm_c 2) 4
      · rw [if_pos k2, if_pos k2]; exact Or.inr ⟨2, by omega, by decide, by decide⟩
      · rw [if_neg k2, if_neg k2]
        by_cases k3 : v = mm_pk (mm_c 3) 5
        · rw [if_pos k3, if_pos k3]; exact Or.inr ⟨3, by omega, by decide, by decide⟩
        · rw [if_neg k3, if_neg k3]
          by_cases k4 : v = mm_pk (mm_c 4) 4
          · rw [if_pos k4, if_pos k4]; exact Or.inr ⟨4, by omega, by decide, by decide⟩
          · rw [if_neg k4, if_neg k4]
            by_cases k5 : v = mm_pk (mm_c 5) 3
            · rw [if_pos k5, if_pos k5]; exact Or.inr ⟨5, by omega, by decide, by decide⟩
            · rw [if_neg k5, if_neg k5]; exact Or.inl ⟨rfl, rfl⟩
theorem Xsp {w n s e : Nat} {t : Nat → Int32} (hw : w < 6) (hn : n ≤ 400) (ht : ∀ i, i < n → x.1 9 i = t i) (hs : s < e) (he : e ≤ n) (p : Prop) [Decidable p] (hp : mm_sp w t s e ↔ p) : F3_spells w (nI s) (nI e) x = some ((if p then 1 else 0), x) := by
  rcases Xspell hw hn ht hs he with ⟨a, b⟩ | ⟨a, b⟩
  · rw [b, if_pos (hp.mp a)]
  · rw [b, if_neg (fun z => a (hp.mpr z))]
theorem XtokL {n s e : Nat} {t : Nat → Int32} (hn : n ≤ 400) (ht : ∀ i, i < n → x.1 9 i = t i) (hs : s < e) (he : e ≤ n) (h1 : ∀ i, s ≤ i → i < e → isL (t i)) : F3_tokenOf (nI s) (nI e) x = some (mm_cw (mm_pk (mm_b t s) (m6 (e - s))), x) := by
  have h0 := h1 s (Nat.le_refl s) hs
  have n59 : ¬ t s = 59 := fun z => by rw [z] at h0; exact absurd h0 (by unfold isL wi; decide)
  have s0 := Xsp (x := x) (w := 0) (by omega) hn ht hs he (mm_pk (mm_b t s) (m6 (e - s)) = mm_pk (mm_c 0) 5) (sp_pk (by omega) hs h1)
  have s1 := Xsp (x := x) (w := 1) (by omega) hn ht hs he (mm_pk (mm_b t s) (m6 (e - s)) = mm_pk (mm_c 1) 4) (sp_pk (by omega) hs h1)
  have s2 := Xsp (x := x) (w := 2) (by omega) hn ht hs he (mm_pk (mm_b t s) (m6 (e - s)) = mm_pk (mm_c 2) 4) (sp_pk (by omega) hs h1)
  have s3 := Xsp (x := x) (w := 3) (by omega) hn ht hs he (mm_pk (mm_b t s) (m6 (e - s)) = mm_pk (mm_c 3) 5) (sp_pk (by omega) hs h1)
  have s4 := Xsp (x := x) (w := 4) (by omega) hn ht hs he (mm_pk (mm_b t s) (m6 (e - s)) = mm_pk (mm_c 4) 4) (sp_pk (by omega) hs h1)
  have s5 := Xsp (x := x) (w := 5) (by omega) hn ht hs he (mm_pk (mm_b t s) (m6 (e - s)) = mm_pk (mm_c 5) 3) (sp_pk (by omega) hs h1)
  have i4 : sx_ix (nI s) 400 = true := sx_ixN (by omega) (by omega)
  have z1 : ¬ (1 : Int32) = 0 := by decide
  unfold F3_tokenOf mm_cw
  simp only [if_pos i4, gI_def, nI_clamp (show s < 2 ^ 31 by omega), ht s (by omega), if_neg n59, XisDigit, isD_n (isLD h0), bind_e, s0, s1, s2, s3, s4, s5, if_true]
  generalize mm_pk (mm_b t s) (m6 (e - s)) = v
  by_cases k0 : v = mm_pk (mm_c 0) 5
  · rw [if_pos k0, if_pos k0, if_neg z1]
  · rw [if_neg k0, if_neg k0, if_pos rfl]
    by_cases k1 : v = mm_pk (mm_c 1) 4
    · rw [if_pos k1, if_pos k1, if_neg z1]
    · rw [if_neg k1, if_neg k1, if_pos rfl]
      by_cases k2 : v = mm_pk (mm_c 2) 4
      · rw [if_pos k2, if_pos k2, if_neg z1]
      · rw [if_neg k2, if_neg k2, if_pos rfl]
        by_cases k3 : v = mm_pk (mm_c 3) 5
        · rw [if_pos k3, if_pos k3, if_neg z1]
        · rw [if_neg k3, if_neg k3, if_pos rfl]
          by_cases k4 : v = mm_pk (mm_c 4) 4
          · rw [if_pos k4, if_pos k4, if_neg z1]
          · rw [if_neg k4, if_neg k4, if_pos rfl]
            by_cases k5 : v = mm_pk (mm_c 5) 3
            · rw [if_pos k5, if_pos k5, if_neg z1]
            · rw [if_neg k5, if_neg k5, if_pos rfl]
end TOK
