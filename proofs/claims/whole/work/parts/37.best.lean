/-! best -/
theorem Ev.all {α : Type} {o : Option α} {β : Type} [Nonempty β] {P : β → α → Prop} (h : ∀ s, Ev o (P s)) : Ev o (fun a => ∀ s, P s a) := by
  obtain ⟨r, e, -⟩ := h (Classical.choice inferInstance)
  refine ⟨r, e, fun s => ?_⟩
  obtain ⟨r2, e2, hp⟩ := h s
  rw [e] at e2
  have : r = r2 := Option.some.inj e2
  rw [this]
  exact hp
theorem okT.s37 {T : Nat → Int32} (h : okT T) {v : Int32} (hv : inN v 0 99) : okT (upd T 37 v) := by
  have e1 : mm_nc (upd T 37 v) = mm_nc T := by unfold mm_nc; rw [upd_ne _ _ (by omega)]
  have e2 : mm_ns (upd T 37 v) = mm_ns T := by unfold mm_ns; rw [upd_ne _ _ (by omega)]
  have h1 := h.nc.2
  have h2 := h.ns.2
  unfold okT
  rw [e1, e2, upd_eq, upd_ne _ _ (show 40 ≠ 37 by omega), upd_ne _ _ (show 41 ≠ 37 by omega), upd_ne _ _ (show 36 ≠ 37 by omega), upd_ne _ _ (show 38 ≠ 37 by omega), upd_ne _ _ (show 39 ≠ 37 by omega)]
  obtain ⟨a1, a2, a3, a4, a5, a6, a7, a8⟩ := h
  refine ⟨a1, a2, a3, hv, a5, a6, fun c hc => ?_, fun k hk => ?_⟩
  · rw [upd_ne _ _ (show 3 * c ≠ 37 by omega), upd_ne _ _ (show 3 * c + 1 ≠ 37 by omega), upd_ne _ _ (show 3 * c + 2 ≠ 37 by omega)]
    exact a7 c hc
  · rw [upd_ne _ _ (show 24 + 3 * k ≠ 37 by omega), upd_ne _ _ (show 24 + 3 * k + 1 ≠ 37 by omega), upd_ne _ _ (show 24 + 3 * k + 2 ≠ 37 by omega)]
    exact a8 k hk
theorem mm_sum_in {f : Nat → Int32} {M : Nat} : ∀ n, (∀ k, k < n → inN (f k) 0 M) → inN (mm_sum f n) 0 (n * M)
  | 0, _ => ⟨0, by omega, by omega, nI_0.symm⟩
  | n + 1, h => by
    rw [mm_sum, Nat.succ_mul]
    exact (mm_sum_in n (fun k hk => h k (by omega))).add (h n (by omega))
theorem end_in {T U S : Nat → Int32} {b : Int32} (hT : okT T) (n : Nat) : inN (mm_end T b U S n) 0 800 := by
  have h40 := hT.nc.2
  exact (mm_sum_in (M := 100) _ (fun c hc => (days_ok (begin_ok hT S) n).2 c hc)).le (by omega)
/-- a sheet with one pay and one last day told -/
def mm_tb (B : Nat → Int32) (p : Nat) (w u : Int32) : Nat → Int32 := upd (upd B p w) 37 u
theorem tb_u (B : Nat → Int32) (p : Nat) (w u v : Int32) : upd (mm_tb B p w u) 37 v = mm_tb B p w v := by
  unfold mm_tb
  rw [upd_upd]
theorem tb_w (B : Nat → Int32) {p : Nat} (hp : p ≠ 37) (w u v : Int32) : upd (mm_tb B p w u) p v = mm_tb B p v u := by
  unfold mm_tb
  funext j
  by_cases q : j = p
  · rw [q, upd_eq, upd_ne _ _ hp, upd_eq]
  · by_cases q2 : j = 37
    · rw [q2, upd_ne _ _ (fun e => hp e.symm), upd_eq, upd_eq]
    · rw [upd_ne _ _ q, upd_ne _ _ q2, upd_ne _ _ q2, upd_ne _ _ q, upd_ne _ _ q]
theorem tb_self (B : Nat → Int32) {p : Nat} : mm_tb B p (B p) (B 37) = B := by
  unfold mm_tb
  rw [upd_self (f := B) (k := p) rfl, upd_self rfl]
theorem tb_far (B : Nat → Int32) {p j : Nat} (w u : Int32) (h : j ≠ p) (h2 : j ≠ 37) : mm_tb B p w u j = B j := by
  unfold mm_tb
  rw [upd_ne _ _ h2, upd_ne _ _ h]
theorem tb_ok {T : Nat → Int32} (hT : okT T) {s : Nat} (hs : s < 4) {w u : Int32} (hw : inN w 0 9) (hu : inN u 0 99) : okT (mm_tb (bareT T) (24 + 3 * s + 2) w u) := ((bare_ok hT).spay hs hw).s37 hu
/-- with nothing paid the last day doesn't matter -/
theorem tb_al {T : Nat → Int32} {s : Nat} (hs : s < 4) (u u2 : Int32) : Al (mm_tb (bareT T) (24 + 3 * s + 2) 0 u) (mm_tb (bareT T) (24 + 3 * s + 2) 0 u2) 0 0 := by
  have z : ∀ k u, k < 4 → mm_tb (bareT T) (24 + 3 * s + 2) 0 u (24 + 3 * k + 2) = 0 := fun k u hk => by
    unfold mm_tb
    rw [upd_ne _ _ (by omega)]
    by_cases q : k = s
    · rw [q, upd_eq]
    · rw [upd_ne _ _ (by omega), bare_pay T hk]
  refine ⟨fun j _ hj => ?_, fun k day hk => by rw [given_zero (z k u hk), given_zero (z k u2 hk)]⟩
  rw [tb_far _ _ _ (by omega) (by omega), tb_far _ _ _ (by omega) (by omega)]
def mm_bz (T : Nat → Int32) : Nat → Nat → Int32
  | 0 => T
  | c + 1 => upd (mm_bz T c) (24 + 3 * c + 2) 0
theorem bz_4 (T : Nat → Int32) : mm_bz T 4 = bareT T := by
  funext j
  unfold bareT
  simp only [mm_bz]
  by_cases q : j = 26 ∨ j = 29 ∨ j = 32 ∨ j = 35
  · rw [if_pos q]
    rcases q with rfl | rfl | rfl | rfl
    · rw [upd_ne _ _ (by omega), upd_ne _ _ (by omega), upd_ne _ _ (by omega)]; exact upd_eq _ _ _
    · rw [upd_ne _ _ (by omega), upd_ne _ _ (by omega)]; exact upd_eq _ _ _
    · rw [upd_ne _ _ (by omega)]; exact upd_eq _ _ _
    · exact upd_eq _ _ _
  · rw [if_neg q, upd_ne _ _ (by omega), upd_ne _ _ (by omega), upd_ne _ _ (by omega), upd_ne _ _ (by omega)]
section BEST
variable {x m : SQ}
theorem XT.s37 {k : Nat} {T : Nat → Int32} (h : XT x k T) (hT : okT T) (v : Int32) : XT (sI x k 9 v) k (upd T 37 v) := by
  have e1 : mm_nc (upd T 37 v) = mm_nc T := by unfold mm_nc; rw [upd_ne _ _ (by omega)]
  have e2 : mm_ns (upd T 37 v) = mm_ns T := by unfold mm_ns; rw [upd_ne _ _ (by omega)]
  have h1 := hT.nc.2
  have h2 := hT.ns.2
  unfold XT
  rw [e1, e2, upd_eq, upd_ne _ _ (show 40 ≠ 37 by omega), upd_ne _ _ (show 41 ≠ 37 by omega), upd_ne _ _ (show 36 ≠ 37 by omega), upd_ne _ _ (show 38 ≠ 37 by omega), upd_ne _ _ (show 39 ≠ 37 by omega), sx_row, upd_eq, upd_ne _ _ (show 0 ≠ 9 by omega), upd_ne _ _ (show 1 ≠ 9 by omega), upd_ne _ _ (show 8 ≠ 9 by omega), upd_ne _ _ (show 10 ≠ 9 by omega), upd_ne _ _ (show 11 ≠ 9 by omega)]
  obtain ⟨x1, x2, x3, x4, x5, x6, x7, x8⟩ := h
  refine ⟨x1, x2, x3, rfl, x5, x6, fun c hc => ?_, fun s hs => ?_⟩
  · rw [upd_ne _ _ (show 3 * c ≠ 37 by omega), upd_ne _ _ (show 3 * c + 1 ≠ 37 by omega), upd_ne _ _ (show 3 * c + 2 ≠ 37 by omega), sx_row_ne _ _ _ (show k + 1 ≠ k by omega), sx_row_ne _ _ _ (show k + 2 ≠ k by omega), sx_row_ne _ _ _ (show k + 3 ≠ k by omega)]
    exact x7 c hc
  · rw [upd_ne _ _ (show 24 + 3 * s ≠ 37 by omega), upd_ne _ _ (show 24 + 3 * s + 1 ≠ 37 by omega), upd_ne _ _ (show 24 + 3 * s + 2 ≠ 37 by omega), sx_row_ne _ _ _ (show k + 4 ≠ k by omega), sx_row_ne _ _ _ (show k + 5 ≠ k by omega), sx_row_ne _ _ _ (show k + 6 ≠ k by omega)]
    exact x8 s hs
def BX (x : SQ) (T : Nat → Int32) (s : Nat) (w u : Int32) (y : SQ) : Prop := inN w 0 9 ∧ inN u 0 99 ∧ XT y 41 (mm_tb (bareT T) (24 + 3 * s + 2) w u) ∧ Only (fun o => 37 ≤ o) x y
def BM (m : SQ) (s : Nat) (w u : Int32) (n : SQ) : Prop := inN w 0 9 ∧ inN u 0 99 ∧ n.1 2 = mm_tb (bareT (m.1 2)) (24 + 3 * s + 2) w u ∧ Only (fun o => o = 2 ∨ o = 7) (sA m 8 (mm_cp (m.1 8) (m.1 2) 42)) n
theorem BX.pay {T : Nat → Int32} {s : Nat} {w u v : Int32} {y : SQ} (h : BX x T s w u y) (hT : okT T) (hs : s < 4) (hv : inN v 0 9) : BX x T s v u (sI y 47 s v) := by
  obtain ⟨a, b, c, d⟩ := h
  refine ⟨hv, b, ?_, d.sI (by omega)⟩
  have := c.spay (tb_ok hT hs a b) hs v
  rw [tb_w _ (by omega)] at this
  exact this
theorem BX.til {T : Nat → Int32} {s : Nat} {w u v : Int32} {y : SQ} (h : BX x T s w u y) (hT : okT T) (hs : s < 4) (hv : inN v 0 99) : BX x T s w v (sI y 41 9 v) := by
  obtain ⟨a, b, c, d⟩ := h
  refine ⟨a, hv, ?_, d.sI (by omega)⟩
  have := c.s37 (tb_ok hT hs a b) v
  rw [tb_u] at this
  exact this
theorem BX.run {T U : Nat → Int32} {s d : Nat} {w u : Int32} {y : SQ} (h : BX x T s w u y) (hT : okT T) (hs : s < 4) (hU : ∀ j, j < 6 → x.1 23 j = U j) (hd : d ≤ 99) : ∃ r z, F6_likingOn (nI d) y = some (r, z) ∧ BX x T s w u z ∧ ∀ S, r = mm_end (mm_tb (bareT T) (24 + 3 * s + 2) w u) 0 U S d := by
  obtain ⟨a, b, c, e⟩ := h
  obtain ⟨⟨r, z⟩, q1, q2⟩ := Ev.all (fun S => Xends (x := y) (U := U) S c (tb_ok hT hs a b) (fun j hj => by rw [e.1 23 (by omega)]; exact hU j hj) hd)
  refine ⟨r, z, q1, ⟨a, b, c.cong (fun o h1 h2 => (q2 (fun _ => 0)).2.1 o (by omega)), e.tr ((q2 (fun _ => 0)).2.mono (fun o ho => by omega))⟩, fun S => (q2 S).1⟩
theorem BM.set {s : Nat} {w u v t : Int32} {n : SQ} (h : BM m s w u n) (hv : inN v 0 9) (ht : inN t 0 99) : BM m s v t (sI (sI n 2 (24 + 3 * s + 2) v) 2 37 t) := by
  obtain ⟨a, b, c, d⟩ := h
  refine ⟨hv, ht, ?_, (d.sI (by omega)).sI (by omega)⟩
  rw [sx_row, sx_row, c]
  unfold mm_tb
  rw [show upd (upd (upd (upd (bareT (m.1 2)) (24 + 3 * s + 2) w) 37 u) (24 + 3 * s + 2) v) 37 t = upd (upd (mm_tb (bareT (m.1 2)) (24 + 3 * s + 2) w u) (24 + 3 * s + 2) v) 37 t from rfl]
  by_cases hp : 24 + 3 * s + 2 = 37
  · omega
  · rw [tb_w _ hp, tb_u]
    rfl
theorem BM.run {s d : Nat} {w u : Int32} {n : SQ} (h : BM m s w u n) (hT : okT (m.1 2)) (h16 : m.1 0 16 = 0) (hs : s < 4) (hd : d ≤ 99) : ∃ S, F7_endOn (nI d) n = some (mm_end (mm_tb (bareT (m.1 2)) (24 + 3 * s + 2) w u) 0 (m.1 3) (n.1 7) d, sA n 7 S) ∧ BM m s w u (sA n 7 S) := by
  obtain ⟨a, b, c, e⟩ := h
  have r0 : n.1 0 16 = 0 := by rw [e.1 0 (by omega), sA_ne _ _ (by omega), h16]
  have r3 : n.1 3 = m.1 3 := by rw [e.1 3 (by omega), sA_ne _ _ (by omega)]
  have hm := MendOn (m := n) (d := d) (by rw [c]; exact tb_ok hT hs a b) hd
  rw [c, r0, r3] at hm
  exact ⟨_, hm, a, b, by rw [sA_ne _ _ (by omega)]; exact c, e.sA (by omega)⟩
theorem Mzero (v1 v2 v3 : Int32) : F7_best_48 v1 v2 v3 0 m = F7_best_87 v1 v2 v3 0 0 (-1) 0 (sA m 2 (bareT (m.1 2))) := by
  rw [← bz_4]
  unfold F7_best_48
  refine Ev.up (S := fun c => (nI c, sA m 2 (mm_bz (m.1 2) c))) (N := 4) (fun c hc => ?_) ?_ (FU_gt (by omega)) (by rw [nI_0, mm_bz, sA_self])
  · have e : ¬ (4 : Int32) ≤ nI c := by rw [px_l4]; exact nI_ge hc (by omega)
    simp (disch := omega) only [F7_best_48b, if_neg e, Int32.add_zero, px_m3, px_a3, px_a24, px_a36, px_a42, px_m27, px_p1, px_p2, px_p3, nI_add, nI_clamp, sx_ixN, if_true, Bool.false_eq_true, if_false, sx_let_e, sI_sA, mm_bz]
  · have e : (4 : Int32) ≤ nI 4 := by rw [← px_l4]; exact Int32.le_refl _
    simp only [F7_best_48b, if_pos e]
end BEST
