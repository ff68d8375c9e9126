/-! the jar: rests, blamed -/
def mm_js (T U S : Nat → Int32) (c : Nat) : Nat := if mm_choice T 1 (U 0) S c (S 0) = -9 then 0 else (mm_choice T 1 (U 0) S c (S 0)).toNatClampNeg
def mm_JP (T U S : Nat → Int32) (c : Nat) : Int32 := mm_pages T c (mm_js T U S c)
def mm_JJ (T U S : Nat → Int32) (c : Nat) : Int32 := mm_joys T S c (mm_js T U S c) - U 0
def mm_JT (T S : Nat → Int32) (g : Int32) (c : Nat) : Int32 := g * T (3 * c + 2) * S 1 / 100
def mm_jp (JP : Nat → Int32) (v : Int32) : Nat → Int32
  | 0 => 0
  | c + 1 => mm_jp JP v c + (if (v >>> (nI c &&& 31)) &&& 1 = 1 then JP c else 0)
def mm_has (JP JJ JT : Nat → Int32) (n : Nat) (p v : Int32) (c : Nat) : Int32 := (if (v >>> (nI c &&& 31)) &&& 1 = 1 then JJ c else 0) + (if mm_jp JP v n < p then 0 else JT c)
def mm_rest (H : Int32 → Nat → Int32) (v : Int32) : Nat → Int32
  | 0 => 1
  | c + 1 => if mm_rest H v c = 0 then 0 else if H v c < H (v ^^^ ((1 : Int32) <<< (nI c &&& 31))) c then 0 else 1
theorem rest01 (H : Int32 → Nat → Int32) (v : Int32) : ∀ n, mm_rest H v n = 0 ∨ mm_rest H v n = 1
  | 0 => Or.inr rfl
  | n + 1 => by
    rw [mm_rest]
    split
    · exact Or.inl rfl
    · split
      · exact Or.inl rfl
      · exact Or.inr rfl
theorem rest_st {H : Int32 → Nat → Int32} {v : Int32} {k : Nat} (h : mm_rest H v k = 0) : ∀ n, k ≤ n → mm_rest H v n = 0
  | 0, hn => by rw [show k = 0 by omega] at h; exact h
  | n + 1, hn => by
    by_cases q : k = n + 1
    · rw [← q]; exact h
    · rw [mm_rest, if_pos (rest_st h n (by omega))]
theorem shl8 {n : Nat} (h : n ≤ 8) : (1 : Int32) <<< (nI n &&& 31) = nI (2 ^ n) := by
  have e : ∀ n : Fin 9, (1 : Int32) <<< (nI n.val &&& 31) = nI (2 ^ n.val) := by decide +kernel
  exact e ⟨n, by omega⟩
theorem pow8 {n : Nat} (h : n ≤ 8) : 2 ^ n ≤ 256 := by
  have e : ∀ n : Fin 9, 2 ^ n.val ≤ 256 := by decide
  exact e ⟨n, by omega⟩
theorem js_lt {T U S : Nat → Int32} (hT : okT T) (h0 : 0 < mm_ns T) (c : Nat) : mm_js T U S c < mm_ns T := by
  have h4 := hT.ns.2
  unfold mm_js
  rcases choice_in hT 1 (U 0) S c (S 0) with e | ⟨k, hk, e⟩
  · rw [e, if_pos rfl]; exact h0
  · rw [e, if_neg (nI_m9 (by omega)), nI_clamp (by omega)]; exact hk
section JAR
variable {x m : SQ}
def JX (y : SQ) (n : Nat) (p : Int32) (JP JJ JT : Nat → Int32) : Prop := y.1 37 0 = p ∧ y.1 37 1 = nI n ∧ ∀ c, c < n → y.1 38 c = JP c ∧ y.1 39 c = JJ c ∧ y.1 40 c = JT c
theorem Xfill {T U S : Nat → Int32} {p g : Int32} (h : XT x 1 T) (hR : XR x 19 (mm_nc T) S) (hT : okT T) (h0 : 0 < mm_ns T) (hU : x.1 23 0 = U 0) : Ev (F6_fillJar p g x) (fun z => JX z.2 (mm_nc T) p (mm_JP T U S) (mm_JJ T U S) (mm_JT T S g) ∧ Only (fun o => 37 ≤ o) x z.2) := by
  have h40 := hT.nc.2
  have h41 := hT.ns.2
  obtain ⟨⟨u, y⟩, q1, q2, q3⟩ := Xcopy (k := 41) h hT (by omega)
  simp only at q2 q3
  obtain ⟨⟨u2, y2⟩, p1, p2, p3⟩ := Xnopay q2 hT
  simp only at p2 p3
  unfold F6_fillJar
  simp only [q1, p1, bind_e, sx_let_e]
  have e41 : (sI y2 37 0 p).1 41 0 = nI (mm_nc T) := by rw [sx_row_ne _ _ _ (by omega), p2.1, bare_ne _ (by omega), hT.nc.1]
  rw [gI_def, e41]
  obtain ⟨y3, hy3⟩ : ∃ y3, y3 = sI (sI y2 37 0 p) 37 1 (nI (mm_nc T)) := ⟨_, rfl⟩
  rw [← hy3]
  have hO3 : Only (fun o => 37 ≤ o) x y3 := by
    rw [hy3]
    exact (((q3.mono (fun o ho => by omega)).tr (p3.mono (fun o ho => by omega))).sI (by omega)).sI (by omega)
  have hX3 : XT y3 41 (bareT T) := p2.cong (fun o h1 h2 => by rw [hy3, sx_row_ne _ _ _ (by omega), sx_row_ne _ _ _ (by omega)])
  have g0 : y3.1 37 0 = p := by rw [hy3, sx_row, upd_ne _ _ (by omega), sx_row, upd_eq]
  have g1 : y3.1 37 1 = nI (mm_nc T) := by rw [hy3, sx_row, upd_eq]
  have enc : mm_nc (bareT T) = mm_nc T := by unfold mm_nc; rw [bare_ne _ (by omega)]
  have ens : mm_ns (bareT T) = mm_ns T := by unfold mm_ns; rw [bare_ne _ (by omega)]
  have hal := bare_al T
  unfold F6_fillJar_42
  refine Ev.loop (fun c s => ∃ y, s = (nI c, y) ∧ Only (fun o => 38 ≤ o ∧ o ≤ 40) y3 y ∧ ∀ i, i < c → y.1 38 i = mm_JP T U S i ∧ y.1 39 i = mm_JJ T U S i ∧ y.1 40 i = mm_JT T S g i) (mm_nc T) (fun c s hc hI => ?_) (fun s hI => ?_) ⟨y3, by rw [nI_0], Only.rf _, fun i hi => by omega⟩ (FU_gt (by omega))
  · obtain ⟨y, rfl, hO, hJ⟩ := hI
    have hX : XT y 41 (bareT T) := hX3.cong (fun o h1 h2 => hO.1 o (by omega))
    have hRy : XR y 19 (mm_nc (bareT T)) S := by
      rw [enc]
      exact hR.cong (fun o h1 h2 => by rw [hO.1 o (by omega), hO3.1 o (by omega)])
    have e1 : y.1 41 0 = nI (mm_nc T) := by rw [hX.1, bare_ne _ (by omega), hT.nc.1]
    have e2 : y.1 23 0 = U 0 := by rw [hO.1 23 (by omega), hO3.1 23 (by omega), hU]
    have hok := bare_ok hT
    have hch := Xchoice (idle := U 0) hX hRy hok (c := c) (by rw [enc]; exact hc)
    rw [← hal.choice hok (S := S) (idle := U 0) (day := S 0) (show c < 8 by omega)] at hch
    have hjs := js_lt (U := U) (S := S) hT h0 c
    have ejs : (if mm_choice T 1 (U 0) S c (S 0) < (0 : Int32) then (0 : Int32) else mm_choice T 1 (U 0) S c (S 0)) = nI (mm_js T U S c) := by
      unfold mm_js
      rcases choice_in hT 1 (U 0) S c (S 0) with e | ⟨k, hk, e⟩
      · rw [e, if_pos (by decide), if_pos rfl, nI_0]
      · rw [e, if_neg (nI_pos (by omega)), if_neg (nI_m9 (by omega)), nI_clamp (by omega)]
    have hpg := Xpages hX hok (c := c) (s := mm_js T U S c) (by rw [enc]; exact hc) (by rw [ens]; exact hjs)
    rw [← hal.pages (show c < 8 by omega) (show mm_js T U S c < 4 by omega)] at hpg
    have hX4 : ∀ v, XT (sI y 38 c v) 41 (bareT T) := fun v => hX.cong (fun o h1 h2 => sx_row_ne _ _ _ (by omega))
    have hR4 : ∀ v, XR (sI y 38 c v) 19 (mm_nc (bareT T)) S := fun v => hRy.cong (fun o h1 h2 => sx_row_ne _ _ _ (by omega))
    have hjo : ∀ v, F0_joysOf 19 41 (nI c) (nI (mm_js T U S c)) (sI y 38 c v) = some (mm_joys T S c (mm_js T U S c), sI y 38 c v) := fun v => by
      rw [Xjoys (hX4 v) (hR4 v) hok (c := c) (s := mm_js T U S c) (by rw [enc]; exact hc) (by rw [ens]; exact hjs), hal.joys (show mm_js T U S c < 4 by omega)]
    have e3 : ∀ v, (sI y 38 c v).1 23 0 = U 0 := fun v => by rw [sx_row_ne _ _ _ (by omega), e2]
    have e4 : ∀ v w, (sI (sI y 38 c v) 39 c w).1 44 c = T (3 * c + 2) := fun v w => by
      rw [sx_row_ne _ _ _ (by omega), sx_row_ne _ _ _ (by omega), (hX.2.2.2.2.2.2.1 c (by rw [enc]; exact hc)).2.2, bare_ne _ (by omega)]
    have e5 : ∀ v w, (sI (sI y 38 c v) 39 c w).1 19 1 = S 1 := fun v w => by
      rw [sx_row_ne _ _ _ (by omega), sx_row_ne _ _ _ (by omega), hRy.2.1]
    simp (disch := omega) only [F6_fillJar_42b, gI_def, e1, if_neg (nI_ge hc (show mm_nc T < 2 ^ 31 by omega)), e2, hch, bind_e, sx_let_e, ejs, hpg, Int32.add_zero, px_m3, px_a3, px_a24, px_a36, px_a42, px_m27, px_p1, px_p2, px_p3, nI_add, nI_clamp, sx_ixN, if_true, Bool.false_eq_true, if_false, hjo, e3, e4, e5]
    refine Ev.ret (Or.inl ⟨_, rfl, _, rfl, ((hO.sI (by omega)).sI (by omega)).sI (by omega), fun i hi => ?_⟩)
    rw [sx_row_ne _ _ _ (show 38 ≠ 40 by omega), sx_row_ne _ _ _ (show 38 ≠ 39 by omega), sx_row, sx_row_ne _ _ _ (show 39 ≠ 40 by omega), sx_row, sx_row_ne _ _ _ (show 39 ≠ 38 by omega), sx_row, sx_row_ne _ _ _ (show 40 ≠ 39 by omega), sx_row_ne _ _ _ (show 40 ≠ 38 by omega)]
    by_cases q : i = c
    · rw [q, upd_eq, upd_eq, upd_eq]
      exact ⟨rfl, rfl, rfl⟩
    · rw [upd_ne _ _ q, upd_ne _ _ q, upd_ne _ _ q]
      exact hJ i (by omega)
  · obtain ⟨y, rfl, hO, hJ⟩ := hI
    have e1 : y.1 41 0 = nI (mm_nc T) := by rw [hO.1 41 (by omega), hX3.1, bare_ne _ (by omega), hT.nc.1]
    simp only [F6_fillJar_42b, gI_def, e1, if_pos (nI_le (Nat.le_refl (mm_nc T)) (show mm_nc T < 2 ^ 31 by omega))]
    exact Ev.ret ⟨_, rfl, ⟨by rw [hO.1 37 (by omega), g0], by rw [hO.1 37 (by omega), g1], hJ⟩, hO3.tr (hO.mono (fun o ho => by omega))⟩
theorem Xjp {n : Nat} {p v : Int32} {JP JJ JT : Nat → Int32} (h : JX x n p JP JJ JT) (hn : n ≤ 8) : F2_pagesOf v x = some (mm_jp JP v n, x) := by
  unfold F2_pagesOf F2_pagesOf_4
  refine Ev.up (S := fun c => (mm_jp JP v c, nI c, x)) (N := n) (fun c hc => ?_) ?_ (FU_gt (by omega)) (by rw [nI_0, mm_jp])
  · simp (disch := omega) only [F2_pagesOf_4b, F2_pagesOf_30, gI_def, h.2.1, if_neg (nI_ge hc (show n < 2 ^ 31 by omega)), Int32.add_zero, px_m3, px_a3, px_a24, px_a36, px_a42, px_m27, px_p1, px_p2, px_p3, nI_add, nI_clamp, sx_ixN, if_true, Bool.false_eq_true, if_false, (h.2.2 c hc).1, sx_let_e, mm_jp]
    by_cases q : (v >>> (nI c &&& 31)) &&& 1 = 1
    · rw [if_pos q, if_pos q]
    · rw [if_neg q, if_neg q, Int32.add_zero]
  · simp only [F2_pagesOf_4b, gI_def, h.2.1, if_pos (nI_le (Nat.le_refl n) (show n < 2 ^ 31 by omega)), Option.map_some]
theorem Xhas {n c : Nat} {p v : Int32} {JP JJ JT : Nat → Int32} (h : JX x n p JP JJ JT) (hn : n ≤ 8) (hc : c < n) : F2_hasBy v (nI c) x = some (mm_has JP JJ JT n p v c, x) := by
  unfold F2_hasBy F2_hasBy_19
  simp (disch := omega) only [Xjp h hn, bind_e, gI_def, Int32.add_zero, px_m3, px_a3, px_a24, px_a36, px_a42, px_m27, px_p1, px_p2, px_p3, nI_add, nI_clamp, sx_ixN, if_true, Bool.false_eq_true, if_false, h.1, (h.2.2 c hc).2.1, (h.2.2 c hc).2.2]
  unfold mm_has
  by_cases q : (v >>> (nI c &&& 31)) &&& 1 = 1
  · rw [if_pos q, if_pos q]
    by_cases q2 : mm_jp JP v n < p
    · rw [if_pos q2, if_pos q2, Int32.add_zero]
    · rw [if_neg q2, if_neg q2]
  · rw [if_neg q, if_neg q]
    by_cases q2 : mm_jp JP v n < p
    · rw [if_pos q2, if_pos q2, Int32.add_zero]
    · rw [if_neg q2, if_neg q2]
theorem le_nlt {a b : Int32} : (a ≤ b) ↔ ¬ b < a := by
  rw [Int32.le_iff_toInt_le, Int32.lt_iff_toInt_lt]
  omega
theorem Xrest {n : Nat} {p v : Int32} {JP JJ JT : Nat → Int32} (h : JX x n p JP JJ JT) (hn : n ≤ 8) : F2_isRest v x = some (mm_rest (fun v c => mm_has JP JJ JT n p v c) v n, x) := by
  have key : Ev (F2_isRest v x) (fun z => z = (mm_rest (fun v c => mm_has JP JJ JT n p v c) v n, x)) := by
    unfold F2_isRest F2_isRest_2
    refine Ev.loop (fun c s => s = (nI c, x) ∧ mm_rest (fun v c => mm_has JP JJ JT n p v c) v c = 1) n (fun c s hc hI => ?_) (fun s hI => ?_) ⟨by rw [nI_0], rfl⟩ (FU_gt (by omega))
    · obtain ⟨rfl, h1⟩ := hI
      have hs : mm_rest (fun v c => mm_has JP JJ JT n p v c) v (c + 1) = if mm_has JP JJ JT n p v c < mm_has JP JJ JT n p (v ^^^ ((1 : Int32) <<< (nI c &&& 31))) c then 0 else 1 := by
        rw [mm_rest, if_neg (by rw [h1]; decide)]
      simp only [F2_isRest_2b, gI_def, h.2.1, if_neg (nI_ge hc (show n < 2 ^ 31 by omega)), Xhas h hn hc, bind_e, sx_let_e, px_p1]
      by_cases q : mm_has JP JJ JT n p v c < mm_has JP JJ JT n p (v ^^^ ((1 : Int32) <<< (nI c &&& 31))) c
      · rw [if_neg (fun z => (le_nlt.mp z) q)]
        rw [if_pos q] at hs
        exact Ev.ret (Or.inr ⟨_, rfl, by rw [rest_st hs n (by omega)]⟩)
      · rw [if_pos (le_nlt.mpr q)]
        rw [if_neg q] at hs
        exact Ev.ret (Or.inl ⟨_, rfl, rfl, hs⟩)
    · obtain ⟨rfl, h1⟩ := hI
      simp only [F2_isRest_2b, gI_def, h.2.1, if_pos (nI_le (Nat.le_refl n) (show n < 2 ^ 31 by omega))]
      exact Ev.ret ⟨_, rfl, by rw [h1]⟩
  obtain ⟨z, e, rfl⟩ := key
  exact e
end JAR
