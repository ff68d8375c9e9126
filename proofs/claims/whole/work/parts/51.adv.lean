/-! the next token -/
def Tok (t : Nat → Int32) (n p s : Nat) (code : Int32) (e : Nat) : Prop :=
  p ≤ s ∧ s ≤ n ∧ (∀ i, p ≤ i → i < s → t i = 32) ∧ (s = n → code = -8) ∧
  (s < n → s < e ∧ e ≤ n ∧ ¬ t s = 32 ∧ ¬ code = -8 ∧ ∀ x : SQ, x.1 8 0 = nI n → (∀ i, i < n → x.1 9 i = t i) → F3_rowEnd (nI s) x = some (nI e, x) ∧ F3_tokenOf (nI s) (nI e) x = some (code, x)) ∧
  (∀ m : SQ, m.1 0 3 = nI n → m.1 1 = t → m.1 0 4 = nI p → Ev (F7_advances m) (fun z => Fx m z.2 ∧ z.2.1 0 6 = nI s ∧ (s < n → z.2.1 0 4 = nI e) ∧ TK code (z.2.1 0 5) (z.2.1 0 7)))
section ADV
variable {x m : SQ}
/-- from the body at the token to the whole scan -/
theorem Madv {n p s : Nat} {t : Nat → Int32} {Q : SQ → Prop} (hn : n ≤ 400) (hx : m.1 0 3 = nI n) (ht : m.1 1 = t) (e4 : m.1 0 4 = nI p) (hp : p ≤ s) (hs : s ≤ n) (hb : ∀ i, p ≤ i → i < s → mm_by t n i = 32) (h : ∀ y, Fx m y → y.1 0 4 = nI s → Ev (F7_advancesb y) (fun z => ∃ u, z = .inr u ∧ Q u.2)) : Ev (F7_advances m) (fun z => Q z.2) := by
  unfold F7_advances
  refine Ev.loop (fun k y => Fx m y ∧ y.1 0 4 = nI (p + k)) (s - p) (fun k y hk hI => ?_) (fun y hI => ?_) ⟨fx_rf m, e4⟩ (FU_gt (by omega))
  · obtain ⟨hF, y4⟩ := hI
    have y3 : y.1 0 3 = nI n := by rw [hF.2.2 3 (by omega), hx]
    have y1 : y.1 1 = t := by rw [hF.1 1 (by omega), ht]
    have hb2 := MbyteAt (m := y) (p := p + k) y3 hn (by omega)
    rw [y1, hb (p + k) (by omega) (by omega)] at hb2
    simp only [F7_advancesb, gI_def, y4, hb2, bind_e, if_true, sx_let_e, px_p1]
    exact Ev.ret (Or.inl ⟨_, rfl, fx_s hF (by omega), by rw [sx_row, upd_eq, show p + k + 1 = p + (k + 1) by omega]⟩)
  · obtain ⟨hF, y4⟩ := hI
    rw [show p + (s - p) = s by omega] at y4
    exact h y hF y4
theorem tok_ex {n p : Nat} {t : Nat → Int32} (hn : n ≤ 400) (hp : p ≤ n) (hB : ∀ i, i < n → inN (t i) 0 255) : ∃ s code e, Tok t n p s code e := by
  obtain ⟨s, s1, s2, s3, s4⟩ := rowS t hp
  have h32 : ∀ i, p ≤ i → i < s → t i = 32 := fun i a b => by
    have := s3 i a b
    rw [by_lt (by omega)] at this
    exact this
  by_cases hsn : s = n
  · subst hsn
    refine ⟨s, -8, s, s1, s2, h32, fun _ => rfl, fun z => by omega, fun m hx ht e4 => ?_⟩
    refine Madv (Q := fun u => Fx m u ∧ u.1 0 6 = nI s ∧ (s < s → u.1 0 4 = nI s) ∧ TK (-8) (u.1 0 5) (u.1 0 7)) hn hx ht e4 s1 s2 s3 (fun y hF y4 => ?_)
    have y3 : y.1 0 3 = nI s := by rw [hF.2.2 3 (by omega), hx]
    have y1 : y.1 1 = t := by rw [hF.1 1 (by omega), ht]
    have hb := MbyteAt (m := y) (p := s) y3 hn (by omega)
    have z3 : (sI y 0 6 (nI s)).1 0 3 = nI s := by rw [sx_row, upd_ne _ _ (by omega), y3]
    have z1 : (sI y 0 6 (nI s)).1 1 = t := by rw [sx_row_ne _ _ _ (by omega), y1]
    have z4 : (sI y 0 6 (nI s)).1 0 4 = nI s := by rw [sx_row, upd_ne _ _ (by omega), y4]
    have hb2 := MbyteAt (m := sI y 0 6 (nI s)) (p := s) z3 hn (by omega)
    rw [y1, by_n] at hb
    rw [z1, by_n] at hb2
    have f1 : ¬ (-1 : Int32) = 32 := by decide
    have f2 : ¬ (0 : Int32) ≤ -1 := by decide
    simp only [F7_advancesb, gI_def, y4, hb, bind_e, if_neg f1, sx_let_e, z4, hb2, if_neg f2]
    refine Ev.ret ⟨_, rfl, fx_s (fx_s hF (by omega)) (by omega), ?_, fun z => by omega, Or.inl ⟨rfl, by rw [sx_row, upd_eq]⟩⟩
    rw [sx_row, upd_ne _ _ (by omega), sx_row, upd_eq]
  · have hs : s < n := by omega
    rw [by_lt hs] at s4
    obtain ⟨bj, -, hbj, ebj⟩ := hB s hs
    have hge : (0 : Int32) ≤ t s := by rw [ebj]; exact nI_pos' (by omega)
    -- the model up to the kind of token
    have pre : ∀ (m : SQ) (Q : SQ → Prop), m.1 0 3 = nI n → m.1 1 = t → m.1 0 4 = nI p → (∀ y, Fx m y → y.1 0 4 = nI s → y.1 0 6 = nI s → Ev ((if wi (t s) 97 122 = 0 then (if wi (t s) 48 57 = 0 then sx_let (sI y 0 4 (nI s + 1)) (fun q7 => (if t s = (59 : Int32) then (F7_advances_307 3 q7).map Sum.inr else (F7_advances_307 4 q7).map Sum.inr)) else sx_let (sI y 0 7 0) (fun q9 => (F7_advances_175 (t s) q9).map Sum.inr)) else (F7_advances_68 0 y).map Sum.inr : Option (SQ ⊕ (Unit × SQ)))) (fun z => ∃ u, z = .inr u ∧ Q u.2)) → Ev (F7_advances m) (fun z => Q z.2) := by
      intro m Q hx ht e4 h
      refine Madv hn hx ht e4 s1 s2 s3 (fun y hF y4 => ?_)
      have y3 : y.1 0 3 = nI n := by rw [hF.2.2 3 (by omega), hx]
      have y1 : y.1 1 = t := by rw [hF.1 1 (by omega), ht]
      have hb := MbyteAt (m := y) (p := s) y3 hn (by omega)
      have z3 : (sI y 0 6 (nI s)).1 0 3 = nI n := by rw [sx_row, upd_ne _ _ (by omega), y3]
      have z1 : (sI y 0 6 (nI s)).1 1 = t := by rw [sx_row_ne _ _ _ (by omega), y1]
      have z4 : (sI y 0 6 (nI s)).1 0 4 = nI s := by rw [sx_row, upd_ne _ _ (by omega), y4]
      have hb2 := MbyteAt (m := sI y 0 6 (nI s)) (p := s) z3 hn (by omega)
      rw [y1, by_lt hs] at hb
      rw [z1, by_lt hs] at hb2
      have := h (sI y 0 6 (nI s)) (fx_s hF (by omega)) z4 (by rw [sx_row, upd_eq])
      simp only [F7_advancesb, gI_def, y4, hb, bind_e, if_neg s4, sx_let_e, z4, hb2, if_pos hge, Min]
      simp only [sx_let_e] at this
      exact this
    by_cases hL : isL (t s)
    · -- letters
      obtain ⟨e, e1, e2, e3, e4⟩ := rowL t (n := n) (p := s) s2
      have hse : s < e := by
        rcases Nat.lt_or_ge s e with q | q
        · exact q
        · exfalso
          rw [show e = s by omega, by_lt hs] at e4
          exact e4 hL
      have hl : ∀ i, s ≤ i → i < e → isL (t i) := fun i a b => by
        have := e3 i a b
        rw [by_lt (by omega)] at this
        exact this
      have hw := cw_wv (mm_pk (mm_b t s) (m6 (e - s)))
      refine ⟨s, mm_cw (mm_pk (mm_b t s) (m6 (e - s))), e, s1, s2, h32, fun z => by omega, fun _ => ⟨hse, e2, s4, ?_, fun x hx hx9 => ⟨XrowL hx hn hx9 hs ⟨e1, e2⟩ e3 e4 hL, XtokL hn hx9 hse e2 hl⟩⟩, fun m hx ht e4' => ?_⟩
      · rcases hw with ⟨-, b⟩ | ⟨w, a, -, b⟩
        · rw [b]; decide
        · rw [b]
          rcases (show w = 0 ∨ w = 1 ∨ w = 2 ∨ w = 3 ∨ w = 4 ∨ w = 5 by omega) with rfl | rfl | rfl | rfl | rfl | rfl <;> decide
      · refine pre m (fun u => Fx m u ∧ u.1 0 6 = nI s ∧ (s < n → u.1 0 4 = nI e) ∧ TK (mm_cw (mm_pk (mm_b t s) (m6 (e - s)))) (u.1 0 5) (u.1 0 7)) hx ht e4' (fun y hF y4 y6 => ?_)
        have y3 : y.1 0 3 = nI n := by rw [hF.2.2 3 (by omega), hx]
        have y1 : y.1 1 = t := by rw [hF.1 1 (by omega), ht]
        rw [if_neg (show ¬ wi (t s) 97 122 = 0 by rw [show wi (t s) 97 122 = 1 from hL]; decide)]
        refine (M68 y3 hn y1 hse e2 hl e4 y4 y6).map (fun r hr => ⟨r, rfl, fx_tr hF hr.1, hr.2.2.1, fun _ => hr.2.1, ?_⟩)
        rcases hw with ⟨a, b⟩ | ⟨w, a, b, c⟩
        · rcases hr.2.2.2 with ⟨u, v⟩ | ⟨u, v, -⟩
          · exact Or.inr (Or.inr (Or.inl ⟨b, v⟩))
          · exact absurd a u
        · rcases hr.2.2.2 with ⟨u, v⟩ | ⟨u, v, w2⟩
          · rw [b] at u
            exact absurd u (nI_ne9 (by omega))
          · exact Or.inr (Or.inr (Or.inr (Or.inl ⟨w, a, c, v, by rw [w2, b]⟩)))
    · by_cases hD : isD (t s)
      · -- digits
        obtain ⟨e, e1, e2, e3, e4⟩ := rowD t (n := n) (p := s) s2
        have hse : s < e := by
          rcases Nat.lt_or_ge s e with q | q
          · exact q
          · exfalso
            rw [show e = s by omega, by_lt hs] at e4
            exact e4 hD
        have hl : ∀ i, s ≤ i → i < e → isD (t i) := fun i a b => by
          have := e3 i a b
          rw [by_lt (by omega)] at this
          exact this
        have n59 : ¬ t s = 59 := fun z => by rw [z] at hD; exact absurd hD (by unfold isD wi; decide)
        have i4 : sx_ix (nI s) 400 = true := sx_ixN (by omega) (by omega)
        have nm : mm_cN t s e = -9 ∨ ∃ v, v ≤ 100 ∧ mm_cN t s e = nI v := by
          unfold mm_cN
          split
          · exact Or.inl rfl
          · split
            · exact Or.inl rfl
            · split
              · rename_i q; exact Or.inr ⟨_, q, rfl⟩
              · exact Or.inl rfl
        refine ⟨s, mm_cN t s e, e, s1, s2, h32, fun z => by omega, fun _ => ⟨hse, e2, s4, ?_, fun x hx hx9 => ⟨XrowD hx hn hx9 hs ⟨e1, e2⟩ e3 e4 hD, ?_⟩⟩, fun m hx ht e4' => ?_⟩
        · rcases nm with a | ⟨v, hv, a⟩
          · rw [a]; decide
          · rw [a]; exact fun z => nI_pos (show v < 2 ^ 31 by omega) (by rw [z]; decide)
        · unfold F3_tokenOf
          simp only [if_pos i4, gI_def, nI_clamp (show s < 2 ^ 31 by omega), hx9 s hs, if_neg n59, XisDigit, show wi (t s) 48 57 = 1 from hD, bind_e, show ¬ ((1 : Int32) = 0) from by decide, if_false, Xnum hn hx9 hse e2 hl]
        · refine pre m (fun u => Fx m u ∧ u.1 0 6 = nI s ∧ (s < n → u.1 0 4 = nI e) ∧ TK (mm_cN t s e) (u.1 0 5) (u.1 0 7)) hx ht e4' (fun y hF y4 y6 => ?_)
          have y3 : (sI y 0 7 0).1 0 3 = nI n := by rw [sx_row, upd_ne _ _ (by omega), hF.2.2 3 (by omega), hx]
          have y1 : (sI y 0 7 0).1 1 = t := by rw [sx_row_ne _ _ _ (by omega), hF.1 1 (by omega), ht]
          rw [if_pos (isL_n hL), if_neg (show ¬ wi (t s) 48 57 = 0 by rw [show wi (t s) 48 57 = 1 from hD]; decide), sx_let_e]
          refine (M175 (m := sI y 0 7 0) y3 hn y1 hse e2 hl e4 (by rw [sx_row, upd_ne _ _ (by omega), y4]) (by rw [sx_row, upd_ne _ _ (by omega), y6]) (by rw [sx_row, upd_eq])).map (fun r hr => ⟨r, rfl, fx_tr (fx_s hF (by omega)) hr.1, hr.2.2.1, fun _ => hr.2.1, ?_⟩)
          rcases hr.2.2.2 with ⟨u, v⟩ | ⟨w, a, b, c, d⟩
          · exact Or.inr (Or.inr (Or.inl ⟨u, v⟩))
          · exact Or.inr (Or.inr (Or.inr (Or.inr ⟨w, a, b, c, d⟩)))
      · -- one byte
        have i4 : sx_ix (nI s) 400 = true := sx_ixN (by omega) (by omega)
        have hm : ∀ (m : SQ) (c tk : Int32), (if t s = (59 : Int32) then (3 : Int32) else 4) = tk → TK c tk 0 → (∀ v, TK c tk v) → m.1 0 3 = nI n → m.1 1 = t → m.1 0 4 = nI p → Ev (F7_advances m) (fun z => Fx m z.2 ∧ z.2.1 0 6 = nI s ∧ (s < n → z.2.1 0 4 = nI (s + 1)) ∧ TK c (z.2.1 0 5) (z.2.1 0 7)) := by
          intro m c tk hk _ hT hx ht e4'
          refine pre m (fun u => Fx m u ∧ u.1 0 6 = nI s ∧ (s < n → u.1 0 4 = nI (s + 1)) ∧ TK c (u.1 0 5) (u.1 0 7)) hx ht e4' (fun y hF y4 y6 => ?_)
          rw [if_pos (isL_n hL), if_pos (isD_n hD), sx_let_e, px_p1]
          have fin : ∀ v, TK c v 0 ∨ True → v = tk → ∃ z, (some (Sum.inr ((), sI (sI y 0 4 (nI (s + 1))) 0 5 v)) : Option (SQ ⊕ (Unit × SQ))) = some z ∧ ∃ u, z = .inr u ∧ Fx m u.2 ∧ u.2.1 0 6 = nI s ∧ (s < n → u.2.1 0 4 = nI (s + 1)) ∧ TK c (u.2.1 0 5) (u.2.1 0 7) := fun v _ hv => by
            refine ⟨_, rfl, _, rfl, fx_s (fx_s hF (by omega)) (by omega), ?_, fun _ => ?_, ?_⟩
            · rw [sx_row, upd_ne _ _ (by omega), sx_row, upd_ne _ _ (by omega), y6]
            · rw [sx_row, upd_ne _ _ (by omega), sx_row, upd_eq]
            · rw [sx_row, upd_eq, hv]
              exact hT _
          by_cases q : t s = 59
          · rw [if_pos q] at hk ⊢
            simp only [F7_advances_307, sx_let_e, Option.map_some]
            exact fin 3 (Or.inr trivial) hk
          · rw [if_neg q] at hk ⊢
            simp only [F7_advances_307, sx_let_e, Option.map_some]
            exact fin 4 (Or.inr trivial) hk
        by_cases q : t s = 59
        · refine ⟨s, -7, s + 1, s1, s2, h32, fun z => by omega, fun _ => ⟨by omega, by omega, s4, by decide, fun x hx hx9 => ⟨XrowO hx hn hx9 hs hL hD, ?_⟩⟩, fun m hx ht e4' => hm m (-7) 3 (by rw [if_pos q]) (Or.inr (Or.inl ⟨rfl, rfl⟩)) (fun v => Or.inr (Or.inl ⟨rfl, rfl⟩)) hx ht e4'⟩
          unfold F3_tokenOf
          simp only [if_pos i4, gI_def, nI_clamp (show s < 2 ^ 31 by omega), hx9 s hs, if_pos q]
        · refine ⟨s, -9, s + 1, s1, s2, h32, fun z => by omega, fun _ => ⟨by omega, by omega, s4, by decide, fun x hx hx9 => ⟨XrowO hx hn hx9 hs hL hD, ?_⟩⟩, fun m hx ht e4' => hm m (-9) 4 (by rw [if_neg q]) (Or.inr (Or.inr (Or.inl ⟨rfl, rfl⟩))) (fun v => Or.inr (Or.inr (Or.inl ⟨rfl, rfl⟩))) hx ht e4'⟩
          have l3 : ∀ w : Fin 6, 3 ≤ sx_stl w.val := by decide +kernel
          have ns : ∀ w, w < 6 → F3_spells w (nI s) (nI (s + 1)) x = some (0, x) := fun w hw => by
            have g := l3 ⟨w, hw⟩
            simp only at g
            rcases Xspell hw hn hx9 (show s < s + 1 by omega) (show s + 1 ≤ n by omega) with ⟨a, b⟩ | ⟨a, b⟩
            · exact absurd a.1 (by omega)
            · exact b
          unfold F3_tokenOf
          simp only [if_pos i4, gI_def, nI_clamp (show s < 2 ^ 31 by omega), hx9 s hs, if_neg q, XisDigit, isD_n hD, bind_e, if_true, ns 0 (by omega), ns 1 (by omega), ns 2 (by omega), ns 3 (by omega), ns 4 (by omega), ns 5 (by omega)]
end ADV
