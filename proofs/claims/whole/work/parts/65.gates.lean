/-! one item on both sides: the gates -/
section GATES
variable {t : Nat → Int32} {n K : Nat} {P : Nat → Nat} {C : Nat → Int32} {E : Nat → Nat} {j : Nat} {y n2 : SQ}
theorem cf_tr {x y z : SQ} (h : CF x y) (g : CF y z) : CF x z := ⟨h.1.tr g.1, g.2.trans h.2⟩
theorem m147_0 {v1 v2 : Int32} (h : AT t n K P C E j y n2) (hS : Seq t n K P C E) (hn : n ≤ 400) : F7_chart_147 v1 v2 0 n2 = F7_chart_181 v1 v2 (sI n2 0 8 (nI (P j))) := by
  unfold F7_chart_147
  simp only [Mtake0 h, bind_e, sx_let_e, fa_well (h.fa hS hn), if_true]
theorem m128_0 {v1 v2 : Int32} (h : AT t n K P C E j y n2) (hS : Seq t n K P C E) (hn : n ≤ 400) : F7_chart_128 v1 v2 0 n2 = F7_chart_181 v1 v2 (sI n2 0 8 (nI (P j))) := by
  unfold F7_chart_128 F7_chart_146
  simp only [m147_0 h hS hn, if_true, ite_self]
theorem m128_n {v1 v2 s : Int32} (h : AT t n K P C E j y n2) (hS : Seq t n K P C E) (hn : n ≤ 400) (e : ¬ n2.1 0 5 = 1) : F7_chart_128 v1 v2 s n2 = F7_chart_181 v1 v2 (sI n2 0 8 (nI (P j))) := by
  unfold F7_chart_128 F7_chart_146
  rw [gI_def, if_neg e, m147_0 h hS hn]
theorem m128_1 {v1 v2 : Int32} (e : n2.1 0 5 = 1) : F7_chart_128 v1 v2 1 n2 = F7_chart_147 v1 v2 1 n2 := by
  unfold F7_chart_128
  rw [gI_def, if_pos e, if_neg (by decide)]
theorem m27_no {v1 v2 : Int32} (h : AT t n K P C E j y n2) (hS : Seq t n K P C E) (hn : n ≤ 400) (e0 : ¬ n2.1 0 5 = 0) (e1 : ¬ n2.1 0 5 = 1) : F7_chart_27b v1 v2 n2 = F7_chart_181 v1 v2 (sI n2 0 8 (nI (P j))) := by
  unfold F7_chart_27b
  simp only [Mwell h, bind_e, if_neg (show ¬ (1 : Int32) = 0 from by decide), gI_def, if_neg e0, m128_n h hS hn e1, ite_self]
theorem m27_w {v1 v2 : Int32} {w c s : Nat} (h : AT t n K P C E j y n2) (hS : Seq t n K P C E) (hn : n ≤ 400) (e5 : n2.1 0 5 = 1) (e7 : n2.1 0 7 = nI w) (e82 : n2.1 2 82 = nI c) (e83 : n2.1 2 83 = nI s) : F7_chart_27b v1 v2 n2 = (if nI w = (0 : Int32) then (if (8 : Int32) ≤ nI c then F7_chart_181 v1 v2 (sI n2 0 8 (nI (P j))) else F7_chart_147 v1 v2 1 n2) else (if nI w = (1 : Int32) then (if (4 : Int32) ≤ nI s then F7_chart_181 v1 v2 (sI n2 0 8 (nI (P j))) else F7_chart_147 v1 v2 1 n2) else (if nI w = (2 : Int32) then (if v2 = 0 then F7_chart_147 v1 v2 1 n2 else F7_chart_181 v1 v2 (sI n2 0 8 (nI (P j)))) else (if nI w = (5 : Int32) then F7_chart_147 v1 v2 1 n2 else F7_chart_181 v1 v2 (sI n2 0 8 (nI (P j))))))) := by
  have n1 : ¬ (1 : Int32) = 0 := by decide
  have n5 : ¬ n2.1 0 5 = 0 := by rw [e5]; decide
  unfold F7_chart_27b
  simp only [Mwell h, bind_e, if_neg n1, gI_def, if_neg n5, e7, e82, e83, m128_0 h hS hn, m128_1 e5]
theorem m147_1 {v1 v2 W : Int32} {j2 : Nat} {y2 z z' : SQ} (hv : v2 = 0 ∨ v2 = 1) (e7 : n2.1 0 7 = W) (ht : F7_takes 1 n2 = some (n2.1 0 7, z)) (hz : AT t n K P C E j2 y2 z) (hi : F7_readsItem W z = some ((), z')) : F7_chart_147 v1 v2 1 n2 = F7_chart_181 v1 (if W = 2 then 1 else v2) z' := by
  have n1 : ¬ (1 : Int32) = 0 := by decide
  unfold F7_chart_147 F7_chart_169 F7_chart_174
  simp only [ht, bind_e, sx_let_e, Mwell hz, if_neg n1, e7, hi]
  rcases hv with rfl | rfl
  · by_cases q : W = 2
    · rw [if_pos rfl, if_pos q, if_pos q]
    · rw [if_pos rfl, if_neg q, if_neg q]
  · rw [if_neg n1, ite_self]
theorem gate_fin {R : Option (Int32 × SQ)} {v1 v2 V W : Int32} {z y1 : SQ} (hv : v2 = 0 ∨ v2 = 1) (hR1 : ∀ y', R = some (1, y') → F3_readItem y = some (1, y')) (hR0 : ∀ y', R = some (0, y') → F3_readItem y = some (0, y')) (hm : F7_chart_27b v1 v2 n2 = F7_chart_147 v1 v2 1 n2) (e7 : n2.1 0 7 = W) (ht : F7_takes 1 n2 = some (n2.1 0 7, z)) (hF : Fx n2 z) (hz : AT t n K P C E (j + 1) y1 z) (hc : CF y y1)
    (H : (∃ y' z' j', j + 1 ≤ j' ∧ R = some (1, y') ∧ F7_readsItem W z = some ((), z') ∧ AT t n K P C E j' y' z' ∧ DR y' z' ∧ CF y1 y' ∧ MF z z' ∧ y'.1 8 6 = V) ∨
      (∃ y' z' j', j' ≤ K ∧ R = some (0, y') ∧ F7_readsItem W z = some ((), z') ∧ y'.1 8 5 = nI j' ∧ FA (P j') z' ∧ CF y1 y' ∧ MF z z')) (hV : V = if W = 2 then 1 else v2) :
    (∃ y' z' j', j + 1 ≤ j' ∧ F3_readItem y = some (1, y') ∧ F7_chart_27b v1 v2 n2 = F7_chart_181 v1 (y'.1 8 6) z' ∧ AT t n K P C E j' y' z' ∧ DR y' z' ∧ CF y y' ∧ MF n2 z' ∧ (y'.1 8 6 = 0 ∨ y'.1 8 6 = 1)) ∨
    (∃ y' z' j' v3, j' ≤ K ∧ F3_readItem y = some (0, y') ∧ F7_chart_27b v1 v2 n2 = F7_chart_181 v1 v3 z' ∧ y'.1 8 5 = nI j' ∧ FA (P j') z' ∧ CF y y' ∧ MF n2 z') := by
  rcases H with ⟨y', z', j', q0, q1, q2, q3, q4, q5, q6, q7⟩ | ⟨y', z', j', q1, q2, q3, q4, q5, q6, q7⟩
  · refine Or.inl ⟨y', z', j', q0, hR1 _ q1, ?_, q3, q4, cf_tr hc q5, mf_tr (mf_fx hF) q6, ?_⟩
    · rw [hm, m147_1 hv e7 ht hz q2, q7, hV]
    · rw [q7, hV]
      split
      · exact Or.inr rfl
      · exact hv
  · refine Or.inr ⟨y', z', j', (if W = 2 then 1 else v2), q1, hR0 _ q2, ?_, q4, q5, cf_tr hc q6, mf_tr (mf_fx hF) q7⟩
    rw [hm, m147_1 hv e7 ht hz q3]
theorem DR.next {z : SQ} {v : Int32} (h : DR y n2) (hF : Fx n2 z) : DR (sI y 8 5 v) z := by
  have e : dD z = dD n2 := by
    funext i
    unfold dD
    rw [hF.1 2 (by omega)]
  refine ⟨by rw [e]; exact h.1, by rw [e]; exact h.2.1.cong (fun o h1 h2 => sx_row_ne _ _ _ (by omega)), ?_⟩
  rw [e, sx_row_ne _ _ _ (by omega)]
  exact h.2.2
theorem gate_both (h : AT t n K P C E j y n2) (hS : Seq t n K P C E) (hn : n ≤ 400) (hD : DR y n2) (hE : ¬ C j = -8) (v1 : Int32) {v2 : Int32} (h6 : y.1 8 6 = v2) (hv : v2 = 0 ∨ v2 = 1) :
    (∃ y' z' j', j + 1 ≤ j' ∧ F3_readItem y = some (1, y') ∧ F7_chart_27b v1 v2 n2 = F7_chart_181 v1 (y'.1 8 6) z' ∧ AT t n K P C E j' y' z' ∧ DR y' z' ∧ CF y y' ∧ MF n2 z' ∧ (y'.1 8 6 = 0 ∨ y'.1 8 6 = 1)) ∨
    (∃ y' z' j' v3, j' ≤ K ∧ F3_readItem y = some (0, y') ∧ F7_chart_27b v1 v2 n2 = F7_chart_181 v1 v3 z' ∧ y'.1 8 5 = nI j' ∧ FA (P j') z' ∧ CF y y' ∧ MF n2 z') := by
  have n1 : ¬ (1 : Int32) = 0 := by decide
  obtain ⟨c, hc⟩ : ∃ c, c = mm_nc (dD n2) := ⟨_, rfl⟩
  obtain ⟨s, hs⟩ : ∃ s, s = mm_ns (dD n2) := ⟨_, rfl⟩
  have e82 : n2.1 2 82 = nI c := by rw [hc]; exact hD.1.nc.1
  have e83 : n2.1 2 83 = nI s := by rw [hs]; exact hD.1.ns.1
  have x10 : y.1 10 0 = nI c := by rw [hc, hD.2.1.1]; exact hD.1.nc.1
  have x11 : y.1 10 1 = nI s := by rw [hs, hD.2.1.2.1]; exact hD.1.ns.1
  have c8 := hD.1.nc.2
  have s4 := hD.1.ns.2
  rw [← hc] at c8
  rw [← hs] at s4
  have hX : F3_readItem y = (if C j = (-6 : Int32) then (F3_readPay y).bind (fun z2 => (if sx_bt z2.1 = true then some (z2.1, z2.2) else none)) else (if C j = (-5 : Int32) then some ((0 : Int32), y) else (if C j = (-4 : Int32) then some ((0 : Int32), y) else (if C j = (-3 : Int32) then (if v2 = 0 then (F3_readPlan y).bind (fun z3 => (if z3.1 = 0 then some ((0 : Int32), z3.2) else some ((1 : Int32), z3.2))) else some ((0 : Int32), y)) else (if C j = (-2 : Int32) then (if (4 : Int32) ≤ nI s then some ((0 : Int32), y) else (F3_readBook y).bind (fun z4 => (if z4.1 = 0 then some ((0 : Int32), z4.2) else some ((1 : Int32), z4.2)))) else (if C j = (-1 : Int32) then (if (8 : Int32) ≤ nI c then some ((0 : Int32), y) else (F3_readChild y).bind (fun z5 => (if z5.1 = 0 then some ((0 : Int32), z5.2) else some ((1 : Int32), z5.2)))) else some ((0 : Int32), y))))))) := by
    unfold F3_readItem F3_readItem_111 F3_readItem_91 F3_readItem_67
    simp only [Xseen h hS hn, bind_e, gI_def, h6, x10, x11]
  have k0 := h.fa hS hn
  have bad : F3_readItem y = some (0, y) → F7_chart_27b v1 v2 n2 = F7_chart_181 v1 v2 (sI n2 0 8 (nI (P j))) → (∃ y' z' j', j + 1 ≤ j' ∧ F3_readItem y = some (1, y') ∧ F7_chart_27b v1 v2 n2 = F7_chart_181 v1 (y'.1 8 6) z' ∧ AT t n K P C E j' y' z' ∧ DR y' z' ∧ CF y y' ∧ MF n2 z' ∧ (y'.1 8 6 = 0 ∨ y'.1 8 6 = 1)) ∨ (∃ y' z' j' v3, j' ≤ K ∧ F3_readItem y = some (0, y') ∧ F7_chart_27b v1 v2 n2 = F7_chart_181 v1 v3 z' ∧ y'.1 8 5 = nI j' ∧ FA (P j') z' ∧ CF y y' ∧ MF n2 z') :=
    fun a b => Or.inr ⟨y, _, j, v2, h.1, a, b, h.2.1, k0, cf_rf y, mf_8 (mf_rf n2)⟩
  have xno : ¬ C j = -6 → ¬ C j = -3 → ¬ C j = -2 → ¬ C j = -1 → F3_readItem y = some (0, y) := fun a b d e => by
    rw [hX, if_neg a, if_neg b, if_neg d, if_neg e, ite_self, ite_self]
  have h0 : sI y 8 5 (y.1 8 5 + 1) = sI y 8 5 (nI (j + 1)) := by rw [h.2.1, px_p1]
  rcases h.2.2.2.2.2.2.2.2.2 with ⟨c1, c2⟩ | ⟨c1, c2⟩ | ⟨c1, c2⟩ | ⟨w, c0, c1, c2, c3⟩ | ⟨v, c0, c1, c2, c3⟩
  · exact absurd c1 hE
  · exact bad (xno (by rw [c1]; decide) (by rw [c1]; decide) (by rw [c1]; decide) (by rw [c1]; decide)) (m27_no h hS hn (by rw [c2]; decide) (by rw [c2]; decide))
  · exact bad (xno (by rw [c1]; decide) (by rw [c1]; decide) (by rw [c1]; decide) (by rw [c1]; decide)) (m27_no h hS hn (by rw [c2]; decide) (by rw [c2]; decide))
  · have hj := h.lt hS hE
    obtain ⟨z, ez, f1, A1⟩ := Mtake1 h hS hj
    have hm := m27_w (v1 := v1) (v2 := v2) h hS hn c2 c3 e82 e83
    have D1 : DR (sI y 8 5 (nI (j + 1))) z := hD.next f1
    have eD : dD z = dD n2 := by
      funext i
      unfold dD
      rw [f1.1 2 (by omega)]
    have c86 : (sI y 8 5 (nI (j + 1))).1 8 6 = v2 := by rw [sx_row, upd_ne _ _ (by omega), h6]
    have cc : CF y (sI y 8 5 (nI (j + 1))) := cf_8 (cf_rf y) (by omega)
    rcases (show w = 0 ∨ w = 1 ∨ w = 2 ∨ w = 3 ∨ w = 4 ∨ w = 5 by omega) with rfl | rfl | rfl | rfl | rfl | rfl
    · rw [show (-1 - nI 0 : Int32) = -1 from by decide] at c1
      rw [show nI 0 = (0 : Int32) from by decide] at hm c3
      rw [if_pos rfl] at hm
      rw [c1, if_neg (by decide), if_neg (by decide), if_neg (by decide), if_neg (by decide), if_neg (by decide), if_pos rfl] at hX
      by_cases q : 8 ≤ c
      · have l : (8 : Int32) ≤ nI c := by rw [px_l8]; exact nI_le q (by omega)
        rw [if_pos l] at hm hX
        exact bad hX hm
      · have l : ¬ (8 : Int32) ≤ nI c := by rw [px_l8]; exact nI_ge (by omega) (by omega)
        rw [if_neg l] at hm hX
        refine gate_fin (R := F3_readChild y) (V := v2) hv (fun y' e => by rw [hX, e, bind_e, if_neg n1]) (fun y' e => by rw [hX, e, bind_e, if_pos rfl]) hm c3 ez f1 A1 cc ?_ (by rw [if_neg (by decide)])
        have H := child_both A1 hS hn D1 (by rw [eD, ← hc]; omega) h0
        rw [c86] at H
        exact H
    · rw [show (-1 - nI 1 : Int32) = -2 from by decide] at c1
      rw [show nI 1 = (1 : Int32) from by decide] at hm c3
      rw [if_neg n1, if_pos rfl] at hm
      rw [c1, if_neg (by decide), if_neg (by decide), if_neg (by decide), if_neg (by decide), if_pos rfl] at hX
      by_cases q : 4 ≤ s
      · have l : (4 : Int32) ≤ nI s := by rw [px_l4]; exact nI_le q (by omega)
        rw [if_pos l] at hm hX
        exact bad hX hm
      · have l : ¬ (4 : Int32) ≤ nI s := by rw [px_l4]; exact nI_ge (by omega) (by omega)
        rw [if_neg l] at hm hX
        refine gate_fin (R := F3_readBook y) (V := v2) hv (fun y' e => by rw [hX, e, bind_e, if_neg n1]) (fun y' e => by rw [hX, e, bind_e, if_pos rfl]) hm c3 ez f1 A1 cc ?_ (by rw [if_neg (by decide)])
        have H := book_both A1 hS hn D1 (by rw [eD, ← hs]; omega) h0
        rw [c86] at H
        exact H
    · rw [show (-1 - nI 2 : Int32) = -3 from by decide] at c1
      rw [show nI 2 = (2 : Int32) from by decide] at hm c3
      rw [if_neg (by decide), if_neg (by decide), if_pos rfl] at hm
      rw [c1, if_neg (by decide), if_neg (by decide), if_neg (by decide), if_pos rfl] at hX
      by_cases q : v2 = 0
      · rw [if_pos q] at hm hX
        exact gate_fin (R := F3_readPlan y) (V := 1) hv (fun y' e => by rw [hX, e, bind_e, if_neg n1]) (fun y' e => by rw [hX, e, bind_e, if_pos rfl]) hm c3 ez f1 A1 cc (plan_both A1 hS hn D1 h0) (by rw [if_pos rfl])
      · rw [if_neg q] at hm hX
        exact bad hX hm
    · rw [show (-1 - nI 3 : Int32) = -4 from by decide] at c1
      rw [show nI 3 = (3 : Int32) from by decide, if_neg (by decide), if_neg (by decide), if_neg (by decide), if_neg (by decide)] at hm
      exact bad (xno (by rw [c1]; decide) (by rw [c1]; decide) (by rw [c1]; decide) (by rw [c1]; decide)) hm
    · rw [show (-1 - nI 4 : Int32) = -5 from by decide] at c1
      rw [show nI 4 = (4 : Int32) from by decide, if_neg (by decide), if_neg (by decide), if_neg (by decide), if_neg (by decide)] at hm
      exact bad (xno (by rw [c1]; decide) (by rw [c1]; decide) (by rw [c1]; decide) (by rw [c1]; decide)) hm
    · rw [show (-1 - nI 5 : Int32) = -6 from by decide] at c1
      rw [show nI 5 = (5 : Int32) from by decide] at hm c3
      rw [if_neg (by decide), if_neg (by decide), if_neg (by decide), if_pos rfl] at hm
      rw [c1, if_pos rfl] at hX
      refine gate_fin (R := F3_readPay y) (V := v2) hv (fun y' e => by rw [hX, e, bind_e, if_pos (show sx_bt (1 : Int32) = true from by decide)]) (fun y' e => by rw [hX, e, bind_e, if_pos (show sx_bt (0 : Int32) = true from by decide)]) hm c3 ez f1 A1 cc ?_ (by rw [if_neg (by decide)])
      have H := pay_both A1 hS hn D1 h0
      rw [c86] at H
      exact H
  · have ne : ∀ a : Int32, a < 0 → ¬ C j = a := fun a ha e => by
      rw [c1] at e
      rw [← e] at ha
      exact nI_pos (show v < 2 ^ 31 by omega) ha
    exact bad (xno (ne _ (by decide)) (ne _ (by decide)) (ne _ (by decide)) (ne _ (by decide))) (m27_no h hS hn (by rw [c2]; decide) (by rw [c2]; decide))
end GATES
