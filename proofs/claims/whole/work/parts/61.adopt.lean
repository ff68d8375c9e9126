/-! the model adopts its draft -/
def mm_ad (T : Nat → Int32) : Nat → Nat → Int32
  | 0 => T
  | c + 1 => upd (mm_ad T c) c (T (42 + c))
theorem ad_ge (T : Nat → Int32) : ∀ {n j : Nat}, n ≤ j → mm_ad T n j = T j
  | 0, _, _ => rfl
  | n + 1, j, h => by rw [mm_ad, upd_ne _ _ (by omega), ad_ge T (show n ≤ j by omega)]
theorem ad_lt (T : Nat → Int32) : ∀ {n j : Nat}, j < n → mm_ad T n j = T (42 + j)
  | 0, _, h => by omega
  | n + 1, j, h => by
    rw [mm_ad]
    by_cases e : j = n
    · rw [e, upd_eq]
    · rw [upd_ne _ _ e, ad_lt T (show j < n by omega)]
section ADOPT
variable {m : SQ}
theorem Madopts : F7_adopts m = some ((), sA (sI (sI (sA m 2 (mm_ad (m.1 2) 42)) 6 0 0) 6 1 0) 4 (mm_begin (mm_ad (m.1 2) 42) (m.1 4))) := by
  unfold F7_adopts F7_adopts_2
  refine Ev.up (S := fun c => (nI c, sA m 2 (mm_ad (m.1 2) c))) (N := 42) (fun c hc => ?_) ?_ (FU_gt (by omega)) (by rw [nI_0, mm_ad, sA_self])
  · have e : ¬ (42 : Int32) ≤ nI c := by rw [px_l42]; exact nI_ge hc (by omega)
    have r : (sA m 2 (mm_ad (m.1 2) c)).1 2 (42 + c) = m.1 2 (42 + c) := by rw [sA_eq, ad_ge _ (by omega)]
    simp (disch := omega) only [F7_adopts_2b, if_neg e, Int32.add_zero, px_m3, px_a3, px_a24, px_a36, px_a42, px_m27, px_p1, px_p2, px_p3, nI_add, nI_clamp, sx_ixN, if_true, Bool.false_eq_true, if_false, gI_def, r, sx_let_e, sI_sA, mm_ad]
  · have e : (42 : Int32) ≤ nI 42 := by rw [← px_l42]; exact Int32.le_refl _
    have hb := Mbegins (m := sI (sI (sA m 2 (mm_ad (m.1 2) 42)) 6 0 0) 6 1 0) (r := 4) (by omega)
    have r2 : (sI (sI (sA m 2 (mm_ad (m.1 2) 42)) 6 0 0) 6 1 0).1 2 = mm_ad (m.1 2) 42 := by rw [sx_row_ne _ _ _ (by omega), sx_row_ne _ _ _ (by omega), sA_eq]
    have r4 : (sI (sI (sA m 2 (mm_ad (m.1 2) 42)) 6 0 0) 6 1 0).1 4 = m.1 4 := by rw [sx_row_ne _ _ _ (by omega), sx_row_ne _ _ _ (by omega), sA_ne _ _ (by omega)]
    rw [r2, r4] at hb
    simp only [F7_adopts_2b, if_pos e, sx_let_e, hb, bind_e, Option.map_some]
end ADOPT
