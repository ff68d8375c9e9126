/-! items: what both sides write -/
def MF (m n : SQ) : Prop := (∀ o, o ≠ 0 → o ≠ 2 → n.1 o = m.1 o) ∧ n.2 = m.2 ∧ (∀ j, ¬ (4 ≤ j ∧ j ≤ 8) → n.1 0 j = m.1 0 j) ∧ (∀ j, j < 42 → n.1 2 j = m.1 2 j)
def CF (x y : SQ) : Prop := Only (fun o => o = 8 ∨ (10 ≤ o ∧ o ≤ 16)) x y ∧ y.1 8 0 = x.1 8 0
/-- the draft of the model -/
def dD (n : SQ) : Nat → Int32 := fun i => n.1 2 (42 + i)
def DR (y n : SQ) : Prop := okT (dD n) ∧ XT y 10 (dD n) ∧ ∀ s, mm_ns (dD n) ≤ s → s < 4 → y.1 16 s = 0
section ITEMS
variable {x m : SQ}
theorem mf_rf (m : SQ) : MF m m := ⟨fun _ _ _ => rfl, rfl, fun _ _ => rfl, fun _ _ => rfl⟩
theorem mf_tr {n p : SQ} (h : MF m n) (g : MF n p) : MF m p := ⟨fun o a b => (g.1 o a b).trans (h.1 o a b), g.2.1.trans h.2.1, fun j hj => (g.2.2.1 j hj).trans (h.2.2.1 j hj), fun j hj => (g.2.2.2 j hj).trans (h.2.2.2 j hj)⟩
theorem mf_fx {n : SQ} (h : Fx m n) : MF m n := ⟨fun o a _ => h.1 o a, h.2.1, fun j hj => h.2.2 j (by omega), fun j _ => by rw [h.1 2 (by omega)]⟩
theorem mf_2 {n : SQ} (h : MF m n) {k : Nat} {v : Int32} (hk : 42 ≤ k) : MF m (sI n 2 k v) := by
  refine ⟨fun o a b => by rw [sx_row_ne _ _ _ b]; exact h.1 o a b, h.2.1, fun j hj => by rw [sx_row_ne _ _ _ (by omega)]; exact h.2.2.1 j hj, fun j hj => ?_⟩
  rw [sx_row, upd_ne _ _ (by omega)]
  exact h.2.2.2 j hj
theorem mf_8 {n : SQ} (h : MF m n) {v : Int32} : MF m (sI n 0 8 v) := by
  refine ⟨fun o a b => by rw [sx_row_ne _ _ _ a]; exact h.1 o a b, h.2.1, fun j hj => ?_, fun j hj => by rw [sx_row_ne _ _ _ (by omega)]; exact h.2.2.2 j hj⟩
  rw [sx_row, upd_ne _ _ (by omega)]
  exact h.2.2.1 j hj
theorem cf_rf (x : SQ) : CF x x := ⟨Only.rf x, rfl⟩
theorem cf_8 {y : SQ} (h : CF x y) {k : Nat} {v : Int32} (hk : k ≠ 0) : CF x (sI y 8 k v) := ⟨h.1.sI (by omega), by rw [sx_row, upd_ne _ _ (fun e => hk e.symm)]; exact h.2⟩
theorem cf_d {y : SQ} (h : CF x y) {o k : Nat} {v : Int32} (ho : 10 ≤ o ∧ o ≤ 16) : CF x (sI y o k v) := ⟨h.1.sI (by omega), by rw [sx_row_ne _ _ _ (by omega)]; exact h.2⟩
theorem fa_2 {f k : Nat} {v : Int32} (h : FA f m) : FA f (sI m 2 k v) := ⟨by rw [sx_row_ne _ _ _ (by omega)]; exact h.1, h.2⟩
section ITEMS2
variable {t : Nat → Int32} {n K : Nat} {P : Nat → Nat} {C : Nat → Int32} {E : Nat → Nat} {j : Nat} {y n2 : SQ}
theorem AT.k2 (h : AT t n K P C E j y n2) {k : Nat} {v : Int32} : AT t n K P C E j y (sI n2 2 k v) := by
  unfold AT at h ⊢
  rw [sx_row_ne _ _ _ (show 0 ≠ 2 by omega), sx_row_ne _ _ _ (show 1 ≠ 2 by omega)]
  exact h
theorem AT.kd (h : AT t n K P C E j y n2) {o k : Nat} {v : Int32} (ho : 10 ≤ o ∧ o ≤ 16) : AT t n K P C E j (sI y o k v) n2 := by
  unfold AT at h ⊢
  rw [sx_row_ne _ _ _ (show 8 ≠ o by omega), sx_row_ne _ _ _ (show 17 ≠ o by omega), sx_row_ne _ _ _ (show 18 ≠ o by omega)]
  exact h
theorem AT.fa (h : AT t n K P C E j y n2) (hS : Seq t n K P C E) (hn : n ≤ 400) : FA (P j) (sI n2 0 8 (nI (P j))) := by
  refine ⟨by rw [sx_row, upd_eq], ?_⟩
  have := (hS.2.2.1 j h.1).2.1
  omega
/-- numbers in a row, and their places in the draft: what the model does when one doesn't stand -/
theorem Mchild_bad {f : Nat} (hf : FA f m) {c : Nat} (hc : c < 8) : Ev ((F7_number 1 9 m).bind (fun z26 => (if sx_ix (nI (42 + 3 * c) + (1 : Int32)) 84 = true then sx_let (sI z26.2 2 (nI (42 + 3 * c) + (1 : Int32)).toNatClampNeg z26.1) (fun q27 => (F7_number 0 9 q27).bind (fun z28 => (if sx_ix (nI (42 + 3 * c) + (2 : Int32)) 84 = true then sx_let (sI z28.2 2 (nI (42 + 3 * c) + (2 : Int32)).toNatClampNeg z28.1) (fun q29 => sx_let (sI q29 2 82 ((gI q29 2 82) + (1 : Int32))) (fun q30 => some ((), q30))) else none))) else none))) (fun z => FA f z.2 ∧ MF m z.2) := by
  have h1 : FA f (sI m 2 (42 + 3 * c + 1) 0) := fa_2 hf
  simp (disch := omega) only [fa_number hf, fa_number h1, bind_e, sx_let_e, Int32.add_zero, px_m3, px_a3, px_a24, px_a36, px_a42, px_m27, px_p1, px_p2, px_p3, nI_add, nI_clamp, sx_ixN, if_true, Bool.false_eq_true, if_false]
  exact Ev.ret ⟨fa_2 (fa_2 h1), mf_2 (mf_2 (mf_2 (mf_rf m) (by omega)) (by omega)) (by omega)⟩
end ITEMS2
end ITEMS
