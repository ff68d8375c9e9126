theorem mi_X7_trial : sx_MI yX7_trial cX7_trial 3 ((some .int)) 2 := ⟨by decide, ⟨by decide, by decide, by decide +kernel⟩, gw_1068, gw_68⟩
abbrev PF7_trial (l : Launch) (Q : Option Value → SQ → Prop) : Nat → List (Nat × Value) → List Value → SQ → Prop := XX shM vwCl KM tfM l RX7 cX7_trial 3 ((some .int)) { frames := 1, cells := 0, slots := 0, locals := 22 } Q
def F7_trial_26   (q : SQ) : Option (Int32 × SQ) :=
  some ((-1 : Int32), q)
set_option maxHeartbeats 400000 in
theorem F7_trial_26_ok (l : Launch)  {Q : Option Value → SQ → Prop}  (q : SQ) {res : Int32 × SQ} (h : F7_trial_26   q = some res) (hk9 : Q (some (.int res.1)) res.2) : PF7_trial l Q 26 [] [] q := by
  unfold F7_trial_26 at h
  refine sx_iconst (v := (-1 : Int32)) dX7_trial_26 (by decide) ?_
  obtain rfl := Option.some.inj h
  exact sx_iret dX7_trial_27 rfl hk9
def F7_trial  (v1 : Int32) (v2 : Int32) (q : SQ) : Option (Int32 × SQ) :=
  sx_let (sI q 0 0 (0 : Int32)) (fun q1 => (F7_in  v1 (0 : Int32) (7 : Int32) q1).bind (fun z2 => (if z2.1 = 0 then F7_trial_26   z2.2 else (F7_in  v2 (-99 : Int32) (99 : Int32) z2.2).bind (fun z3 => (if z3.1 = 0 then F7_trial_26   z3.2 else (if gI z3.2 0 19 = (30 : Int32) then some ((-3 : Int32), z3.2) else (if sx_ix (gI z3.2 0 19) 30 = true then sx_let (sI z3.2 9 (gI z3.2 0 19).toNatClampNeg v1) (fun q4 => (if sx_ix (gI q4 0 19) 30 = true then sx_let (sI q4 10 (gI q4 0 19).toNatClampNeg v2) (fun q5 => sx_let (sI q5 0 19 ((gI q5 0 19) + (1 : Int32))) (fun q6 => some (gI q6 0 19, q6))) else none)) else none)))))))
set_option maxHeartbeats 400000 in
theorem F7_trial_ok (l : Launch)  {Q : Option Value → SQ → Prop} (v1 : Int32) (v2 : Int32) (q : SQ) {res : Int32 × SQ} (h : F7_trial  v1 v2 q = some res) (hk9 : Q (some (.int res.1)) res.2) : PF7_trial l Q 0 [(0, .ref 0), (1, .int v1), (2, .int v2)] [] q := by
  unfold F7_trial at h
  refine sx_aload_n dX7_trial_0 rfl rfl ?_
  refine sx_iconst (v := (0 : Int32)) dX7_trial_1 (by decide) ?_
  obtain ⟨q1, eq1, h⟩ := sx_lt h
  refine sx_putI dX7_trial_2 (hs := shM_0) (k9 := 0) (hf := rfl) cb_X7 ⟨by decide, rfl, gw_799⟩ rfl (by decide) ?_
  refine sx_nmQ eq1 ?_
  refine sx_iload_n dX7_trial_5 rfl rfl ?_
  refine sx_iconst (v := (0 : Int32)) dX7_trial_6 (by decide) ?_
  refine sx_bipush (v := (7 : Int32)) dX7_trial_7 (by decide) ?_
  obtain ⟨z2, hz2, h⟩ := sx_bd h
  refine sx_callS (As := [.int v1, .int (0 : Int32), .int (7 : Int32)]) (rest := []) KSM (F7_in_ck l  v1 (0 : Int32) (7 : Int32) q1 hz2) mi_X7_in gw_865 rfl gw_866 ⟨Nat.le_of_ble_eq_true rfl, Nat.le_of_ble_eq_true rfl⟩ (Nat.le_of_ble_eq_true rfl) dX7_trial_9 rfl ?_
  refine sx_if_eq (tgt := 26) dX7_trial_12 (by decide) (fun c9 => ?_) (fun c9 => ?_)
  · replace h := sx_ip h c9
    refine sx_locs [] rfl ?_
    exact F7_trial_26_ok l   z2.2 h hk9
  · replace h := sx_in h c9
    refine sx_iload_n dX7_trial_15 rfl rfl ?_
    refine sx_bipush (v := (-99 : Int32)) dX7_trial_16 (by decide) ?_
    refine sx_bipush (v := (99 : Int32)) dX7_trial_18 (by decide) ?_
    obtain ⟨z3, hz3, h⟩ := sx_bd h
    refine sx_callS (As := [.int v2, .int (-99 : Int32), .int (99 : Int32)]) (rest := []) KSM (F7_in_ck l  v2 (-99 : Int32) (99 : Int32) z2.2 hz3) mi_X7_in gw_865 rfl gw_866 ⟨Nat.le_of_ble_eq_true rfl, Nat.le_of_ble_eq_true rfl⟩ (Nat.le_of_ble_eq_true rfl) dX7_trial_20 rfl ?_
    refine sx_if_ne (tgt := 28) dX7_trial_23 (by decide) (fun c9 => ?_) (fun c9 => ?_)
    · replace h := sx_in h c9
      refine sx_aload_n dX7_trial_28 rfl rfl ?_
      refine sx_getI dX7_trial_29 (hs := shM_0) (k9 := 19) (hf := rfl) cb_X7 ⟨by decide, rfl, gw_818⟩ ?_
      refine sx_bipush (v := (30 : Int32)) dX7_trial_32 (by decide) ?_
      refine sx_icmp_ne (tgt := 40) dX7_trial_34 (by decide) (fun c9 => ?_) (fun c9 => ?_)
      · replace h := sx_in h c9
        refine sx_aload_n dX7_trial_40 rfl rfl ?_
        refine sx_getR dX7_trial_41 (hs := shM_0) (k9 := 17) (hf := rfl) cb_X7 ⟨by decide, rfl, gw_816⟩ ?_
        refine sx_aload_n dX7_trial_44 rfl rfl ?_
        refine sx_getI dX7_trial_45 (hs := shM_0) (k9 := 19) (hf := rfl) cb_X7 ⟨by decide, rfl, gw_818⟩ ?_
        refine sx_iload_n dX7_trial_48 rfl rfl ?_
        obtain ⟨g9, h⟩ := sx_gd h
        obtain ⟨q4, eq4, h⟩ := sx_lt h
        refine sx_iast dX7_trial_49 shM_9 (fun _ _ => rfl) (sx_ix_in g9) ?_
        refine sx_nmQ eq4 ?_
        refine sx_aload_n dX7_trial_50 rfl rfl ?_
        refine sx_getR dX7_trial_51 (hs := shM_0) (k9 := 18) (hf := rfl) cb_X7 ⟨by decide, rfl, gw_817⟩ ?_
        refine sx_aload_n dX7_trial_54 rfl rfl ?_
        refine sx_getI dX7_trial_55 (hs := shM_0) (k9 := 19) (hf := rfl) cb_X7 ⟨by decide, rfl, gw_818⟩ ?_
        refine sx_iload_n dX7_trial_58 rfl rfl ?_
        obtain ⟨g9, h⟩ := sx_gd h
        obtain ⟨q5, eq5, h⟩ := sx_lt h
        refine sx_iast dX7_trial_59 shM_10 (fun _ _ => rfl) (sx_ix_in g9) ?_
        refine sx_nmQ eq5 ?_
        refine sx_aload_n dX7_trial_60 rfl rfl ?_
        refine sx_dup dX7_trial_61 rfl ?_
        refine sx_getI dX7_trial_62 (hs := shM_0) (k9 := 19) (hf := rfl) cb_X7 ⟨by decide, rfl, gw_818⟩ ?_
        refine sx_iconst (v := (1 : Int32)) dX7_trial_65 (by decide) ?_
        refine sx_iadd dX7_trial_66 ?_
        obtain ⟨q6, eq6, h⟩ := sx_lt h
        refine sx_putI dX7_trial_67 (hs := shM_0) (k9 := 19) (hf := rfl) cb_X7 ⟨by decide, rfl, gw_818⟩ rfl (by decide) ?_
        refine sx_nmQ eq6 ?_
        refine sx_aload_n dX7_trial_70 rfl rfl ?_
        refine sx_getI dX7_trial_71 (hs := shM_0) (k9 := 19) (hf := rfl) cb_X7 ⟨by decide, rfl, gw_818⟩ ?_
        obtain rfl := Option.some.inj h
        exact sx_iret dX7_trial_74 rfl hk9
      · replace h := sx_ip h c9
        refine sx_bipush (v := (-3 : Int32)) dX7_trial_37 (by decide) ?_
        obtain rfl := Option.some.inj h
        exact sx_iret dX7_trial_39 rfl hk9
    · replace h := sx_ip h c9
      refine sx_locs [] rfl ?_
      exact F7_trial_26_ok l   z3.2 h hk9
theorem F7_trial_ck (l : Launch)  (v1 : Int32) (v2 : Int32) (q : SQ) {r : Int32 × SQ} (h : F7_trial  v1 v2 q = some r) : CK shM vwCl KM tfM l yX7_trial cX7_trial 3 ((some .int)) 1 22 [.ref 0, .int v1, .int v2] q (some (.int r.1)) r.2 :=
  CK.of mi_X7_trial (Nat.le_of_ble_eq_true rfl) (F7_trial_ok l  v1 v2 q h ⟨rfl, rfl⟩)
theorem mi_X7_manyOf : sx_MI yX7_manyOf cX7_manyOf 4 ((some .int)) 1 := ⟨by decide, ⟨by decide, by decide, by decide +kernel⟩, gw_1084, gw_68⟩
abbrev PF7_manyOf (l : Launch) (Q : Option Value → SQ → Prop) : Nat → List (Nat × Value) → List Value → SQ → Prop := XX shM vwCl KM tfM l RX7 cX7_manyOf 4 ((some .int)) { frames := 0, cells := 0, slots := 0, locals := 0 } Q
def F7_manyOf_4b  (v1 : Int32) (v2 : Int32) (v3 : Int32) (q : SQ) : Option ((Int32 × Int32 × SQ) ⊕ (Int32 × SQ)) :=
  (if gI q 0 19 ≤ v3 then some (.inr (v2, q)) else (if sx_ix v3 30 = true then sx_let (v2 + ((v1 >>> (gI q 9 v3.toNatClampNeg &&& 31)) &&& (1 : Int32))) (fun x1 => sx_let (v3 + (1 : Int32)) (fun x2 => some (.inl (x1, x2, q)))) else none))
set_option maxHeartbeats 400000 in
theorem F7_manyOf_4b_ok (l : Launch)  {Q : Option Value → SQ → Prop} (v1 : Int32) (v2 : Int32) (v3 : Int32) (q : SQ) {res : (Int32 × Int32 × SQ) ⊕ (Int32 × SQ)} (h : F7_manyOf_4b  v1 v2 v3 q = some res) (hk9 : (∀ a3, res = .inl a3 → PF7_manyOf l Q 4 [(0, .ref 0), (1, .int v1), (2, .int a3.1), (3, .int a3.2.1)] [] a3.2.2) ∧ (∀ b4, res = .inr b4 → Q (some (.int b4.1)) b4.2)) : PF7_manyOf l Q 4 [(0, .ref 0), (1, .int v1), (2, .int v2), (3, .int v3)] [] q := by
  unfold F7_manyOf_4b at h
  refine sx_iload_n dX7_manyOf_4 rfl rfl ?_
  refine sx_aload_n dX7_manyOf_5 rfl rfl ?_
  refine sx_getI dX7_manyOf_6 (hs := shM_0) (k9 := 19) (hf := rfl) cb_X7 ⟨by decide, rfl, gw_818⟩ ?_
  refine sx_icmp_ge (tgt := 31) dX7_manyOf_9 (by decide) (fun c9 => ?_) (fun c9 => ?_)
  · replace h := sx_ip h c9
    refine sx_iload_n dX7_manyOf_31 rfl rfl ?_
    have hk9 := hk9.2 _ (Option.some.inj h).symm
    exact sx_iret dX7_manyOf_32 rfl hk9
  · replace h := sx_in h c9
    refine sx_iload_n dX7_manyOf_12 rfl rfl ?_
    refine sx_iload_n dX7_manyOf_13 rfl rfl ?_
    refine sx_aload_n dX7_manyOf_14 rfl rfl ?_
    refine sx_getR dX7_manyOf_15 (hs := shM_0) (k9 := 17) (hf := rfl) cb_X7 ⟨by decide, rfl, gw_816⟩ ?_
    refine sx_iload_n dX7_manyOf_18 rfl rfl ?_
    obtain ⟨g9, h⟩ := sx_gd h
    refine sx_iald dX7_manyOf_19 shM_9 (fun _ _ => rfl) (sx_ix_in g9) ?_
    refine sx_ishr dX7_manyOf_20 ?_
    refine sx_iconst (v := (1 : Int32)) dX7_manyOf_21 (by decide) ?_
    refine sx_iand dX7_manyOf_22 ?_
    refine sx_iadd dX7_manyOf_23 ?_
    obtain ⟨x1, ex1, h⟩ := sx_lt h
    refine sx_nmI ex1 ?_
    refine sx_istore_n (ls2 := [(2, .int x1), (0, .ref 0), (1, .int v1), (3, .int v3)]) dX7_manyOf_24 rfl (by decide) rfl ?_
    obtain ⟨x2, ex2, h⟩ := sx_lt h
    refine sx_iinc (k9 := 3) (v := x2) (ls2 := [(3, .int x2), (2, .int x1), (0, .ref 0), (1, .int v1)]) dX7_manyOf_25 rfl (by rw [ex2, sx_ofI1]) (by decide) rfl ?_
    refine sx_goto (tgt := 4) dX7_manyOf_28 (by decide) ?_
    refine sx_locs [2, 3, 1, 0] rfl ?_
    exact hk9.1 (x1, x2, q) (Option.some.inj h).symm
def F7_manyOf_4  (v1 : Int32) (v2 : Int32) (v3 : Int32) (q : SQ) : Option (Int32 × SQ) := sx_loop (fun s5 => F7_manyOf_4b  v1 s5.1 s5.2.1 s5.2.2) FU (v2, v3, q)
set_option maxHeartbeats 400000 in
theorem F7_manyOf_4_ok (l : Launch)  {Q : Option Value → SQ → Prop} (v1 : Int32) (v2 : Int32) (v3 : Int32) (q : SQ) {t : Int32 × SQ} (h : F7_manyOf_4  v1 v2 v3 q = some t) (hk9 : Q (some (.int t.1)) t.2) : PF7_manyOf l Q 4 [(0, .ref 0), (1, .int v1), (2, .int v2), (3, .int v3)] [] q := by
  unfold F7_manyOf_4 at h
  have st : ∀ (s : Int32 × Int32 × SQ) (res : (Int32 × Int32 × SQ) ⊕ (Int32 × SQ)), F7_manyOf_4b  v1 s.1 s.2.1 s.2.2 = some res → (∀ s2, res = .inl s2 → PF7_manyOf l Q 4 [(0, .ref 0), (1, .int v1), (2, .int s2.1), (3, .int s2.2.1)] [] s2.2.2) → (∀ t2, res = .inr t2 → Q (some (.int t2.1)) t2.2) → PF7_manyOf l Q 4 [(0, .ref 0), (1, .int v1), (2, .int s.1), (3, .int s.2.1)] [] s.2.2 :=
    fun s res hb hi ho => F7_manyOf_4b_ok l  v1 s.1 s.2.1 s.2.2 hb ⟨hi, ho⟩
  have h9 : PF7_manyOf l Q 4 [(0, .ref 0), (1, .int v1), (2, .int v2), (3, .int v3)] [] q := sx_lp (body := fun s => F7_manyOf_4b  v1 s.1 s.2.1 s.2.2) (P := fun s => PF7_manyOf l Q 4 [(0, .ref 0), (1, .int v1), (2, .int s.1), (3, .int s.2.1)] [] s.2.2) (T := fun t => Q (some (.int t.1)) t.2) st FU (v2, v3, q) t h hk9
  exact h9
def F7_manyOf  (v1 : Int32) (q : SQ) : Option (Int32 × SQ) :=
  F7_manyOf_4  v1 (0 : Int32) (0 : Int32) q
set_option maxHeartbeats 400000 in
theorem F7_manyOf_ok (l : Launch)  {Q : Option Value → SQ → Prop} (v1 : Int32) (q : SQ) {res : Int32 × SQ} (h : F7_manyOf  v1 q = some res) (hk9 : Q (some (.int res.1)) res.2) : PF7_manyOf l Q 0 [(0, .ref 0), (1, .int v1)] [] q := by
  unfold F7_manyOf at h
  refine sx_iconst (v := (0 : Int32)) dX7_manyOf_0 (by decide) ?_
  refine sx_istore_n (ls2 := [(2, .int (0 : Int32)), (0, .ref 0), (1, .int v1)]) dX7_manyOf_1 rfl (by decide) rfl ?_
  refine sx_iconst (v := (0 : Int32)) dX7_manyOf_2 (by decide) ?_
  refine sx_istore_n (ls2 := [(3, .int (0 : Int32)), (2, .int (0 : Int32)), (0, .ref 0), (1, .int v1)]) dX7_manyOf_3 rfl (by decide) rfl ?_
  refine sx_locs [2, 3, 1, 0] rfl ?_
  exact F7_manyOf_4_ok l  v1 (0 : Int32) (0 : Int32) q h hk9
theorem F7_manyOf_ck (l : Launch)  (v1 : Int32) (q : SQ) {r : Int32 × SQ} (h : F7_manyOf  v1 q = some r) : CK shM vwCl KM tfM l yX7_manyOf cX7_manyOf 4 ((some .int)) 0 0 [.ref 0, .int v1] q (some (.int r.1)) r.2 :=
  CK.of mi_X7_manyOf (Nat.le_of_ble_eq_true rfl) (F7_manyOf_ok l  v1 q h ⟨rfl, rfl⟩)
theorem mi_X7_sumOf : sx_MI yX7_sumOf cX7_sumOf 4 ((some .int)) 1 := ⟨by decide, ⟨by decide, by decide, by decide +kernel⟩, gw_1080, gw_68⟩
abbrev PF7_sumOf (l : Launch) (Q : Option Value → SQ → Prop) : Nat → List (Nat × Value) → List Value → SQ → Prop := XX shM vwCl KM tfM l RX7 cX7_sumOf 4 ((some .int)) { frames := 0, cells := 0, slots := 0, locals := 0 } Q
def F7_sumOf_37  (v1 : Int32) (v3 : Int32) (s0 : Int32) (s1 : Int32) (q : SQ) : Option ((Int32 × Int32 × SQ) ⊕ (Int32 × SQ)) :=
  sx_let (s1 + s0) (fun x1 => sx_let (v3 + (1 : Int32)) (fun x2 => some (.inl (x1, x2, q))))
set_option maxHeartbeats 400000 in
theorem F7_sumOf_37_ok (l : Launch)  {Q : Option Value → SQ → Prop} (v1 : Int32) (v3 : Int32) (s0 : Int32) (s1 : Int32) (q : SQ) {res : (Int32 × Int32 × SQ) ⊕ (Int32 × SQ)} (h : F7_sumOf_37  v1 v3 s0 s1 q = some res) (hk9 : (∀ a3, res = .inl a3 → PF7_sumOf l Q 4 [(0, .ref 0), (1, .int v1), (2, .int a3.1), (3, .int a3.2.1)] [] a3.2.2) ∧ (∀ b4, res = .inr b4 → Q (some (.int b4.1)) b4.2)) : PF7_sumOf l Q 37 [(0, .ref 0), (1, .int v1), (3, .int v3)] [.int s0, .int s1] q := by
  unfold F7_sumOf_37 at h
  refine sx_iadd dX7_sumOf_37 ?_
  obtain ⟨x1, ex1, h⟩ := sx_lt h
  refine sx_nmI ex1 ?_
  refine sx_istore_n (ls2 := [(2, .int x1), (0, .ref 0), (1, .int v1), (3, .int v3)]) dX7_sumOf_38 rfl (by decide) rfl ?_
  obtain ⟨x2, ex2, h⟩ := sx_lt h
  refine sx_iinc (k9 := 3) (v := x2) (ls2 := [(3, .int x2), (2, .int x1), (0, .ref 0), (1, .int v1)]) dX7_sumOf_39 rfl (by rw [ex2, sx_ofI1]) (by decide) rfl ?_
  refine sx_goto (tgt := 4) dX7_sumOf_42 (by decide) ?_
  refine sx_locs [2, 3, 1, 0] rfl ?_
  exact hk9.1 (x1, x2, q) (Option.some.inj h).symm
def F7_sumOf_4b  (v1 : Int32) (v2 : Int32) (v3 : Int32) (q : SQ) : Option ((Int32 × Int32 × SQ) ⊕ (Int32 × SQ)) :=
  (if gI q 0 19 ≤ v3 then some (.inr (v2, q)) else (if sx_ix v3 30 = true then (if (v1 >>> (gI q 9 v3.toNatClampNeg &&& 31)) &&& (1 : Int32) = (1 : Int32) then (if sx_ix v3 30 = true then F7_sumOf_37  v1 v3 (gI q 10 v3.toNatClampNeg) v2 q else none) else F7_sumOf_37  v1 v3 (0 : Int32) v2 q) else none))
set_option maxHeartbeats 400000 in
theorem F7_sumOf_4b_ok (l : Launch)  {Q : Option Value → SQ → Prop} (v1 : Int32) (v2 : Int32) (v3 : Int32) (q : SQ) {res : (Int32 × Int32 × SQ) ⊕ (Int32 × SQ)} (h : F7_sumOf_4b  v1 v2 v3 q = some res) (hk9 : (∀ a5, res = .inl a5 → PF7_sumOf l Q 4 [(0, .ref 0), (1, .int v1), (2, .int a5.1), (3, .int a5.2.1)] [] a5.2.2) ∧ (∀ b6, res = .inr b6 → Q (some (.int b6.1)) b6.2)) : PF7_sumOf l Q 4 [(0, .ref 0), (1, .int v1), (2, .int v2), (3, .int v3)] [] q := by
  unfold F7_sumOf_4b at h
  refine sx_iload_n dX7_sumOf_4 rfl rfl ?_
  refine sx_aload_n dX7_sumOf_5 rfl rfl ?_
  refine sx_getI dX7_sumOf_6 (hs := shM_0) (k9 := 19) (hf := rfl) cb_X7 ⟨by decide, rfl, gw_818⟩ ?_
  refine sx_icmp_ge (tgt := 45) dX7_sumOf_9 (by decide) (fun c9 => ?_) (fun c9 => ?_)
  · replace h := sx_ip h c9
    refine sx_iload_n dX7_sumOf_45 rfl rfl ?_
    have hk9 := hk9.2 _ (Option.some.inj h).symm
    exact sx_iret dX7_sumOf_46 rfl hk9
  · replace h := sx_in h c9
    refine sx_iload_n dX7_sumOf_12 rfl rfl ?_
    refine sx_iload_n dX7_sumOf_13 rfl rfl ?_
    refine sx_aload_n dX7_sumOf_14 rfl rfl ?_
    refine sx_getR dX7_sumOf_15 (hs := shM_0) (k9 := 17) (hf := rfl) cb_X7 ⟨by decide, rfl, gw_816⟩ ?_
    refine sx_iload_n dX7_sumOf_18 rfl rfl ?_
    obtain ⟨g9, h⟩ := sx_gd h
    refine sx_iald dX7_sumOf_19 shM_9 (fun _ _ => rfl) (sx_ix_in g9) ?_
    refine sx_ishr dX7_sumOf_20 ?_
    refine sx_iconst (v := (1 : Int32)) dX7_sumOf_21 (by decide) ?_
    refine sx_iand dX7_sumOf_22 ?_
    refine sx_iconst (v := (1 : Int32)) dX7_sumOf_23 (by decide) ?_
    refine sx_icmp_ne (tgt := 36) dX7_sumOf_24 (by decide) (fun c9 => ?_) (fun c9 => ?_)
    · replace h := sx_in h c9
      refine sx_iconst (v := (0 : Int32)) dX7_sumOf_36 (by decide) ?_
      refine sx_locs [0, 1, 3] rfl ?_
      exact F7_sumOf_37_ok l  v1 v3 (0 : Int32) v2 q h hk9
    · replace h := sx_ip h c9
      refine sx_aload_n dX7_sumOf_27 rfl rfl ?_
      refine sx_getR dX7_sumOf_28 (hs := shM_0) (k9 := 18) (hf := rfl) cb_X7 ⟨by decide, rfl, gw_817⟩ ?_
      refine sx_iload_n dX7_sumOf_31 rfl rfl ?_
      obtain ⟨g9, h⟩ := sx_gd h
      refine sx_iald dX7_sumOf_32 shM_10 (fun _ _ => rfl) (sx_ix_in g9) ?_
      refine sx_goto (tgt := 37) dX7_sumOf_33 (by decide) ?_
      refine sx_locs [0, 1, 3] rfl ?_
      exact F7_sumOf_37_ok l  v1 v3 (gI q 10 v3.toNatClampNeg) v2 q h hk9
def F7_sumOf_4  (v1 : Int32) (v2 : Int32) (v3 : Int32) (q : SQ) : Option (Int32 × SQ) := sx_loop (fun s7 => F7_sumOf_4b  v1 s7.1 s7.2.1 s7.2.2) FU (v2, v3, q)
set_option maxHeartbeats 400000 in
theorem F7_sumOf_4_ok (l : Launch)  {Q : Option Value → SQ → Prop} (v1 : Int32) (v2 : Int32) (v3 : Int32) (q : SQ) {t : Int32 × SQ} (h : F7_sumOf_4  v1 v2 v3 q = some t) (hk9 : Q (some (.int t.1)) t.2) : PF7_sumOf l Q 4 [(0, .ref 0), (1, .int v1), (2, .int v2), (3, .int v3)] [] q := by
  unfold F7_sumOf_4 at h
  have st : ∀ (s : Int32 × Int32 × SQ) (res : (Int32 × Int32 × SQ) ⊕ (Int32 × SQ)), F7_sumOf_4b  v1 s.1 s.2.1 s.2.2 = some res → (∀ s2, res = .inl s2 → PF7_sumOf l Q 4 [(0, .ref 0), (1, .int v1), (2, .int s2.1), (3, .int s2.2.1)] [] s2.2.2) → (∀ t2, res = .inr t2 → Q (some (.int t2.1)) t2.2) → PF7_sumOf l Q 4 [(0, .ref 0), (1, .int v1), (2, .int s.1), (3, .int s.2.1)] [] s.2.2 :=
    fun s res hb hi ho => F7_sumOf_4b_ok l  v1 s.1 s.2.1 s.2.2 hb ⟨hi, ho⟩
  have h9 : PF7_sumOf l Q 4 [(0, .ref 0), (1, .int v1), (2, .int v2), (3, .int v3)] [] q := sx_lp (body := fun s => F7_sumOf_4b  v1 s.1 s.2.1 s.2.2) (P := fun s => PF7_sumOf l Q 4 [(0, .ref 0), (1, .int v1), (2, .int s.1), (3, .int s.2.1)] [] s.2.2) (T := fun t => Q (some (.int t.1)) t.2) st FU (v2, v3, q) t h hk9
  exact h9
def F7_sumOf  (v1 : Int32) (q : SQ) : Option (Int32 × SQ) :=
  F7_sumOf_4  v1 (0 : Int32) (0 : Int32) q
set_option maxHeartbeats 400000 in
theorem F7_sumOf_ok (l : Launch)  {Q : Option Value → SQ → Prop} (v1 : Int32) (q : SQ) {res : Int32 × SQ} (h : F7_sumOf  v1 q = some res) (hk9 : Q (some (.int res.1)) res.2) : PF7_sumOf l Q 0 [(0, .ref 0), (1, .int v1)] [] q := by
  unfold F7_sumOf at h
  refine sx_iconst (v := (0 : Int32)) dX7_sumOf_0 (by decide) ?_
  refine sx_istore_n (ls2 := [(2, .int (0 : Int32)), (0, .ref 0), (1, .int v1)]) dX7_sumOf_1 rfl (by decide) rfl ?_
  refine sx_iconst (v := (0 : Int32)) dX7_sumOf_2 (by decide) ?_
  refine sx_istore_n (ls2 := [(3, .int (0 : Int32)), (2, .int (0 : Int32)), (0, .ref 0), (1, .int v1)]) dX7_sumOf_3 rfl (by decide) rfl ?_
  refine sx_locs [2, 3, 1, 0] rfl ?_
  exact F7_sumOf_4_ok l  v1 (0 : Int32) (0 : Int32) q h hk9
theorem F7_sumOf_ck (l : Launch)  (v1 : Int32) (q : SQ) {r : Int32 × SQ} (h : F7_sumOf  v1 q = some r) : CK shM vwCl KM tfM l yX7_sumOf cX7_sumOf 4 ((some .int)) 0 0 [.ref 0, .int v1] q (some (.int r.1)) r.2 :=
  CK.of mi_X7_sumOf (Nat.le_of_ble_eq_true rfl) (F7_sumOf_ok l  v1 q h ⟨rfl, rfl⟩)
theorem mi_X7_gcd : sx_MI yX7_gcd cX7_gcd 5 ((some .int)) 2 := ⟨by decide, ⟨by decide, by decide, by decide +kernel⟩, gw_1088, gw_68⟩
abbrev PF7_gcd (l : Launch) (Q : Option Value → SQ → Prop) : Nat → List (Nat × Value) → List Value → SQ → Prop := XX shM vwCl KM tfM l RX7 cX7_gcd 5 ((some .int)) { frames := 0, cells := 0, slots := 0, locals := 0 } Q
def F7_gcd_13b  (v2 : Int32) (v3 : Int32) (q : SQ) : Option ((Int32 × Int32 × SQ) ⊕ (Int32 × SQ)) :=
  (if v3 = 0 then some (.inr (v2, q)) else (if sx_n0 v3 = true then sx_let (v2 - v2 / v3 * v3) (fun x1 => some (.inl (v3, x1, q))) else none))
set_option maxHeartbeats 400000 in
theorem F7_gcd_13b_ok (l : Launch)  {Q : Option Value → SQ → Prop} (v2 : Int32) (v3 : Int32) (q : SQ) {res : (Int32 × Int32 × SQ) ⊕ (Int32 × SQ)} (h : F7_gcd_13b  v2 v3 q = some res) (hk9 : (∀ a2, res = .inl a2 → PF7_gcd l Q 13 [(2, .int a2.1), (3, .int a2.2.1)] [] a2.2.2) ∧ (∀ b3, res = .inr b3 → Q (some (.int b3.1)) b3.2)) : PF7_gcd l Q 13 [(2, .int v2), (3, .int v3)] [] q := by
  unfold F7_gcd_13b at h
  refine sx_iload_n dX7_gcd_13 rfl rfl ?_
  refine sx_if_eq (tgt := 30) dX7_gcd_14 (by decide) (fun c9 => ?_) (fun c9 => ?_)
  · replace h := sx_ip h c9
    refine sx_iload_n dX7_gcd_30 rfl rfl ?_
    have hk9 := hk9.2 _ (Option.some.inj h).symm
    exact sx_iret dX7_gcd_31 rfl hk9
  · replace h := sx_in h c9
    refine sx_iload_n dX7_gcd_17 rfl rfl ?_
    refine sx_iload_n dX7_gcd_18 rfl rfl ?_
    obtain ⟨g9, h⟩ := sx_gd h
    refine sx_irem dX7_gcd_19 (sx_nz g9) ?_
    obtain ⟨x1, ex1, h⟩ := sx_lt h
    refine sx_nmI ex1 ?_
    refine sx_istore (ls2 := [(4, .int x1), (2, .int v2), (3, .int v3)]) dX7_gcd_20 (by decide) rfl ?_
    refine sx_iload_n dX7_gcd_22 rfl rfl ?_
    refine sx_istore_n (ls2 := [(2, .int v3), (4, .int x1), (3, .int v3)]) dX7_gcd_23 rfl (by decide) rfl ?_
    refine sx_iload dX7_gcd_24 rfl ?_
    refine sx_istore_n (ls2 := [(3, .int x1), (2, .int v3), (4, .int x1)]) dX7_gcd_26 rfl (by decide) rfl ?_
    refine sx_goto (tgt := 13) dX7_gcd_27 (by decide) ?_
    refine sx_locs [1, 0] rfl ?_
    exact hk9.1 (v3, x1, q) (Option.some.inj h).symm
def F7_gcd_13  (v2 : Int32) (v3 : Int32) (q : SQ) : Option (Int32 × SQ) := sx_loop (fun s4 => F7_gcd_13b  s4.1 s4.2.1 s4.2.2) FU (v2, v3, q)
set_option maxHeartbeats 400000 in
theorem F7_gcd_13_ok (l : Launch)  {Q : Option Value → SQ → Prop} (v2 : Int32) (v3 : Int32) (q : SQ) {t : Int32 × SQ} (h : F7_gcd_13  v2 v3 q = some t) (hk9 : Q (some (.int t.1)) t.2) : PF7_gcd l Q 13 [(2, .int v2), (3, .int v3)] [] q := by
  unfold F7_gcd_13 at h
  have st : ∀ (s : Int32 × Int32 × SQ) (res : (Int32 × Int32 × SQ) ⊕ (Int32 × SQ)), F7_gcd_13b  s.1 s.2.1 s.2.2 = some res → (∀ s2, res = .inl s2 → PF7_gcd l Q 13 [(2, .int s2.1), (3, .int s2.2.1)] [] s2.2.2) → (∀ t2, res = .inr t2 → Q (some (.int t2.1)) t2.2) → PF7_gcd l Q 13 [(2, .int s.1), (3, .int s.2.1)] [] s.2.2 :=
    fun s res hb hi ho => F7_gcd_13b_ok l  s.1 s.2.1 s.2.2 hb ⟨hi, ho⟩
  have h9 : PF7_gcd l Q 13 [(2, .int v2), (3, .int v3)] [] q := sx_lp (body := fun s => F7_gcd_13b  s.1 s.2.1 s.2.2) (P := fun s => PF7_gcd l Q 13 [(2, .int s.1), (3, .int s.2.1)] [] s.2.2) (T := fun t => Q (some (.int t.1)) t.2) st FU (v2, v3, q) t h hk9
  exact h9
def F7_gcd_10  (v1 : Int32) (s0 : Int32) (q : SQ) : Option (Int32 × SQ) :=
  F7_gcd_13  s0 v1 q
set_option maxHeartbeats 400000 in
theorem F7_gcd_10_ok (l : Launch)  {Q : Option Value → SQ → Prop} (v1 : Int32) (s0 : Int32) (q : SQ) {res : Int32 × SQ} (h : F7_gcd_10  v1 s0 q = some res) (hk9 : Q (some (.int res.1)) res.2) : PF7_gcd l Q 10 [(1, .int v1)] [.int s0] q := by
  unfold F7_gcd_10 at h
  refine sx_istore_n (ls2 := [(2, .int s0), (1, .int v1)]) dX7_gcd_10 rfl (by decide) rfl ?_
  refine sx_iload_n dX7_gcd_11 rfl rfl ?_
  refine sx_istore_n (ls2 := [(3, .int v1), (2, .int s0), (1, .int v1)]) dX7_gcd_12 rfl (by decide) rfl ?_
  refine sx_locs [1, 0] rfl ?_
  exact F7_gcd_13_ok l  s0 v1 q h hk9
def F7_gcd  (v0 : Int32) (v1 : Int32) (q : SQ) : Option (Int32 × SQ) :=
  (if 0 ≤ v0 then F7_gcd_10  v1 v0 q else F7_gcd_10  v1 (0 - v0) q)
set_option maxHeartbeats 400000 in
theorem F7_gcd_ok (l : Launch)  {Q : Option Value → SQ → Prop} (v0 : Int32) (v1 : Int32) (q : SQ) {res : Int32 × SQ} (h : F7_gcd  v0 v1 q = some res) (hk9 : Q (some (.int res.1)) res.2) : PF7_gcd l Q 0 [(0, .int v0), (1, .int v1)] [] q := by
  unfold F7_gcd at h
  refine sx_iload_n dX7_gcd_0 rfl rfl ?_
  refine sx_if_ge (tgt := 9) dX7_gcd_1 (by decide) (fun c9 => ?_) (fun c9 => ?_)
  · replace h := sx_ip h c9
    refine sx_iload_n dX7_gcd_9 rfl rfl ?_
    refine sx_locs [1] rfl ?_
    exact F7_gcd_10_ok l  v1 v0 q h hk9
  · replace h := sx_in h c9
    refine sx_iload_n dX7_gcd_4 rfl rfl ?_
    refine sx_ineg dX7_gcd_5 ?_
    refine sx_goto (tgt := 10) dX7_gcd_6 (by decide) ?_
    refine sx_locs [1] rfl ?_
    exact F7_gcd_10_ok l  v1 (0 - v0) q h hk9
theorem F7_gcd_ck (l : Launch)  (v0 : Int32) (v1 : Int32) (q : SQ) {r : Int32 × SQ} (h : F7_gcd  v0 v1 q = some r) : CK shM vwCl KM tfM l yX7_gcd cX7_gcd 5 ((some .int)) 0 0 [.int v0, .int v1] q (some (.int r.1)) r.2 :=
  CK.of mi_X7_gcd (Nat.le_of_ble_eq_true rfl) (F7_gcd_ok l  v0 v1 q h ⟨rfl, rfl⟩)
theorem mi_X7_meanOf : sx_MI yX7_meanOf cX7_meanOf 6 ((some .int)) 2 := ⟨by decide, ⟨by decide, by decide, by decide +kernel⟩, gw_1076, gw_68⟩
abbrev PF7_meanOf (l : Launch) (Q : Option Value → SQ → Prop) : Nat → List (Nat × Value) → List Value → SQ → Prop := XX shM vwCl KM tfM l RX7 cX7_meanOf 6 ((some .int)) { frames := 1, cells := 0, slots := 0, locals := 24 } Q
def F7_meanOf  (v1 : Int32) (v2 : Int32) (q : SQ) : Option (Int32 × SQ) :=
  (F7_sumOf  v1 q).bind (fun z1 => sx_let z1.1 (fun x2 => (F7_manyOf  v1 z1.2).bind (fun z3 => sx_let z3.1 (fun x4 => (if x4 = 0 then some ((-1000000 : Int32), z3.2) else (F7_gcd  x2 x4 z3.2).bind (fun z5 => sx_let z5.1 (fun x6 => (if v2 = 0 then (if sx_n0 x6 = true then some (x2 / x6, z5.2) else none) else (if sx_n0 x6 = true then some (x4 / x6, z5.2) else none)))))))))
set_option maxHeartbeats 400000 in
theorem F7_meanOf_ok (l : Launch)  {Q : Option Value → SQ → Prop} (v1 : Int32) (v2 : Int32) (q : SQ) {res : Int32 × SQ} (h : F7_meanOf  v1 v2 q = some res) (hk9 : Q (some (.int res.1)) res.2) : PF7_meanOf l Q 0 [(0, .ref 0), (1, .int v1), (2, .int v2)] [] q := by
  unfold F7_meanOf at h
  refine sx_aload_n dX7_meanOf_0 rfl rfl ?_
  refine sx_iload_n dX7_meanOf_1 rfl rfl ?_
  obtain ⟨z1, hz1, h⟩ := sx_bd h
  refine sx_callV (o := 0) (As := [.int v1]) (rest := []) KSM (F7_sumOf_ck l  v1 q hz1) mi_X7_sumOf gw_1077 rfl ⟨gw_1079, gw_57⟩ shM_0 rfl rfl ⟨Nat.le_of_ble_eq_true rfl, Nat.le_of_ble_eq_true rfl⟩ (Nat.le_of_ble_eq_true rfl) dX7_meanOf_2 rfl ?_
  obtain ⟨x2, ex2, h⟩ := sx_lt h
  refine sx_nmI ex2 ?_
  refine sx_istore_n (ls2 := [(3, .int x2), (0, .ref 0), (1, .int v1), (2, .int v2)]) dX7_meanOf_5 rfl (by decide) rfl ?_
  refine sx_aload_n dX7_meanOf_6 rfl rfl ?_
  refine sx_iload_n dX7_meanOf_7 rfl rfl ?_
  obtain ⟨z3, hz3, h⟩ := sx_bd h
  refine sx_callV (o := 0) (As := [.int v1]) (rest := []) KSM (F7_manyOf_ck l  v1 z1.2 hz3) mi_X7_manyOf gw_1081 rfl ⟨gw_1083, gw_58⟩ shM_0 rfl rfl ⟨Nat.le_of_ble_eq_true rfl, Nat.le_of_ble_eq_true rfl⟩ (Nat.le_of_ble_eq_true rfl) dX7_meanOf_8 rfl ?_
  obtain ⟨x4, ex4, h⟩ := sx_lt h
  refine sx_nmI ex4 ?_
  refine sx_istore (ls2 := [(4, .int x4), (3, .int x2), (0, .ref 0), (1, .int v1), (2, .int v2)]) dX7_meanOf_11 (by decide) rfl ?_
  refine sx_iload dX7_meanOf_13 rfl ?_
  refine sx_if_ne (tgt := 21) dX7_meanOf_15 (by decide) (fun c9 => ?_) (fun c9 => ?_)
  · replace h := sx_in h c9
    refine sx_iload_n dX7_meanOf_21 rfl rfl ?_
    refine sx_iload dX7_meanOf_22 rfl ?_
    obtain ⟨z5, hz5, h⟩ := sx_bd h
    refine sx_callS (As := [.int x2, .int x4]) (rest := []) KSM (F7_gcd_ck l  x2 x4 z3.2 hz5) mi_X7_gcd gw_1086 rfl gw_1087 ⟨Nat.le_of_ble_eq_true rfl, Nat.le_of_ble_eq_true rfl⟩ (Nat.le_of_ble_eq_true rfl) dX7_meanOf_24 rfl ?_
    obtain ⟨x6, ex6, h⟩ := sx_lt h
    refine sx_nmI ex6 ?_
    refine sx_istore (ls2 := [(5, .int x6), (4, .int x4), (3, .int x2), (0, .ref 0), (1, .int v1), (2, .int v2)]) dX7_meanOf_27 (by decide) rfl ?_
    refine sx_iload_n dX7_meanOf_29 rfl rfl ?_
    refine sx_if_ne (tgt := 40) dX7_meanOf_30 (by decide) (fun c9 => ?_) (fun c9 => ?_)
    · replace h := sx_in h c9
      refine sx_iload dX7_meanOf_40 rfl ?_
      refine sx_iload dX7_meanOf_42 rfl ?_
      obtain ⟨g9, h⟩ := sx_gd h
      refine sx_idiv dX7_meanOf_44 (sx_nz g9) ?_
      obtain rfl := Option.some.inj h
      exact sx_iret dX7_meanOf_45 rfl hk9
    · replace h := sx_ip h c9
      refine sx_iload_n dX7_meanOf_33 rfl rfl ?_
      refine sx_iload dX7_meanOf_34 rfl ?_
      obtain ⟨g9, h⟩ := sx_gd h
      refine sx_idiv dX7_meanOf_36 (sx_nz g9) ?_
      refine sx_goto (tgt := 45) dX7_meanOf_37 (by decide) ?_
      obtain rfl := Option.some.inj h
      exact sx_iret dX7_meanOf_45 rfl hk9
  · replace h := sx_ip h c9
    refine sx_ldc (v := (-1000000 : Int32)) dX7_meanOf_18 gw_1085 ?_
    obtain rfl := Option.some.inj h
    exact sx_iret dX7_meanOf_20 rfl hk9
theorem F7_meanOf_ck (l : Launch)  (v1 : Int32) (v2 : Int32) (q : SQ) {r : Int32 × SQ} (h : F7_meanOf  v1 v2 q = some r) : CK shM vwCl KM tfM l yX7_meanOf cX7_meanOf 6 ((some .int)) 1 24 [.ref 0, .int v1, .int v2] q (some (.int r.1)) r.2 :=
  CK.of mi_X7_meanOf (Nat.le_of_ble_eq_true rfl) (F7_meanOf_ok l  v1 v2 q h ⟨rfl, rfl⟩)
theorem mi_X7_joined : sx_MI yX7_joined cX7_joined 3 ((some .int)) 2 := ⟨by decide, ⟨by decide, by decide, by decide +kernel⟩, gw_1072, gw_68⟩
abbrev PF7_joined (l : Launch) (Q : Option Value → SQ → Prop) : Nat → List (Nat × Value) → List Value → SQ → Prop := XX shM vwCl KM tfM l RX7 cX7_joined 3 ((some .int)) { frames := 2, cells := 0, slots := 0, locals := 49 } Q
def F7_joined_34   (q : SQ) : Option (Int32 × SQ) :=
  some ((-1000000 : Int32), q)
set_option maxHeartbeats 400000 in
theorem F7_joined_34_ok (l : Launch)  {Q : Option Value → SQ → Prop}  (q : SQ) {res : Int32 × SQ} (h : F7_joined_34   q = some res) (hk9 : Q (some (.int res.1)) res.2) : PF7_joined l Q 34 [] [] q := by
  unfold F7_joined_34 at h
  refine sx_ldc (v := (-1000000 : Int32)) dX7_joined_34 gw_1085 ?_
  obtain rfl := Option.some.inj h
  exact sx_iret dX7_joined_36 rfl hk9
def F7_joined  (v1 : Int32) (v2 : Int32) (q : SQ) : Option (Int32 × SQ) :=
  sx_let (sI q 0 0 (0 : Int32)) (fun q1 => (F7_in  v1 (0 : Int32) (255 : Int32) q1).bind (fun z2 => (if z2.1 = 0 then F7_joined_34   z2.2 else (F7_in  v2 (0 : Int32) (1 : Int32) z2.2).bind (fun z3 => (if z3.1 = 0 then F7_joined_34   z3.2 else (F7_meanOf  v1 v2 z3.2).bind (fun z4 => some (z4.1, z4.2)))))))
set_option maxHeartbeats 400000 in
theorem F7_joined_ok (l : Launch)  {Q : Option Value → SQ → Prop} (v1 : Int32) (v2 : Int32) (q : SQ) {res : Int32 × SQ} (h : F7_joined  v1 v2 q = some res) (hk9 : Q (some (.int res.1)) res.2) : PF7_joined l Q 0 [(0, .ref 0), (1, .int v1), (2, .int v2)] [] q := by
  unfold F7_joined at h
  refine sx_aload_n dX7_joined_0 rfl rfl ?_
  refine sx_iconst (v := (0 : Int32)) dX7_joined_1 (by decide) ?_
  obtain ⟨q1, eq1, h⟩ := sx_lt h
  refine sx_putI dX7_joined_2 (hs := shM_0) (k9 := 0) (hf := rfl) cb_X7 ⟨by decide, rfl, gw_799⟩ rfl (by decide) ?_
  refine sx_nmQ eq1 ?_
  refine sx_iload_n dX7_joined_5 rfl rfl ?_
  refine sx_iconst (v := (0 : Int32)) dX7_joined_6 (by decide) ?_
  refine sx_sipush (v := (255 : Int32)) dX7_joined_7 (by decide) ?_
  obtain ⟨z2, hz2, h⟩ := sx_bd h
  refine sx_callS (As := [.int v1, .int (0 : Int32), .int (255 : Int32)]) (rest := []) KSM (F7_in_ck l  v1 (0 : Int32) (255 : Int32) q1 hz2) mi_X7_in gw_865 rfl gw_866 ⟨Nat.le_of_ble_eq_true rfl, Nat.le_of_ble_eq_true rfl⟩ (Nat.le_of_ble_eq_true rfl) dX7_joined_10 rfl ?_
  refine sx_if_eq (tgt := 34) dX7_joined_13 (by decide) (fun c9 => ?_) (fun c9 => ?_)
  · replace h := sx_ip h c9
    refine sx_locs [] rfl ?_
    exact F7_joined_34_ok l   z2.2 h hk9
  · replace h := sx_in h c9
    refine sx_iload_n dX7_joined_16 rfl rfl ?_
    refine sx_iconst (v := (0 : Int32)) dX7_joined_17 (by decide) ?_
    refine sx_iconst (v := (1 : Int32)) dX7_joined_18 (by decide) ?_
    obtain ⟨z3, hz3, h⟩ := sx_bd h
    refine sx_callS (As := [.int v2, .int (0 : Int32), .int (1 : Int32)]) (rest := []) KSM (F7_in_ck l  v2 (0 : Int32) (1 : Int32) z2.2 hz3) mi_X7_in gw_865 rfl gw_866 ⟨Nat.le_of_ble_eq_true rfl, Nat.le_of_ble_eq_true rfl⟩ (Nat.le_of_ble_eq_true rfl) dX7_joined_19 rfl ?_
    refine sx_if_eq (tgt := 34) dX7_joined_22 (by decide) (fun c9 => ?_) (fun c9 => ?_)
    · replace h := sx_ip h c9
      refine sx_locs [] rfl ?_
      exact F7_joined_34_ok l   z3.2 h hk9
    · replace h := sx_in h c9
      refine sx_aload_n dX7_joined_25 rfl rfl ?_
      refine sx_iload_n dX7_joined_26 rfl rfl ?_
      refine sx_iload_n dX7_joined_27 rfl rfl ?_
      obtain ⟨z4, hz4, h⟩ := sx_bd h
      refine sx_callV (o := 0) (As := [.int v1, .int v2]) (rest := []) KSM (F7_meanOf_ck l  v1 v2 z3.2 hz4) mi_X7_meanOf gw_1073 rfl ⟨gw_1075, gw_56⟩ shM_0 rfl rfl ⟨Nat.le_of_ble_eq_true rfl, Nat.le_of_ble_eq_true rfl⟩ (Nat.le_of_ble_eq_true rfl) dX7_joined_28 rfl ?_
      refine sx_goto (tgt := 36) dX7_joined_31 (by decide) ?_
      obtain rfl := Option.some.inj h
      exact sx_iret dX7_joined_36 rfl hk9
theorem F7_joined_ck (l : Launch)  (v1 : Int32) (v2 : Int32) (q : SQ) {r : Int32 × SQ} (h : F7_joined  v1 v2 q = some r) : CK shM vwCl KM tfM l yX7_joined cX7_joined 3 ((some .int)) 2 49 [.ref 0, .int v1, .int v2] q (some (.int r.1)) r.2 :=
  CK.of mi_X7_joined (Nat.le_of_ble_eq_true rfl) (F7_joined_ok l  v1 v2 q h ⟨rfl, rfl⟩)
theorem mi_X7_parts : sx_MI yX7_parts cX7_parts 15 ((some .int)) 0 := ⟨by decide, ⟨by decide, by decide, by decide +kernel⟩, gw_1092, gw_68⟩
abbrev PF7_parts (l : Launch) (Q : Option Value → SQ → Prop) : Nat → List (Nat × Value) → List Value → SQ → Prop := XX shM vwCl KM tfM l RX7 cX7_parts 15 ((some .int)) { frames := 1, cells := 0, slots := 0, locals := 23 } Q
def F7_parts_165  (v1 : Int32) (v2 : Int64) (v4 : Int64) (v6 : Int32) (q : SQ) : Option ((Int32 × Int64 × Int64 × Int32 × SQ) ⊕ (Int32 × SQ)) :=
  sx_let (v6 + (1 : Int32)) (fun x7 => some (.inl (v1, v2, v4, x7, q)))
set_option maxHeartbeats 400000 in
theorem F7_parts_165_ok (l : Launch)  {Q : Option Value → SQ → Prop} (v1 : Int32) (v2 : Int64) (v4 : Int64) (v6 : Int32) (q : SQ) {res : (Int32 × Int64 × Int64 × Int32 × SQ) ⊕ (Int32 × SQ)} (h : F7_parts_165  v1 v2 v4 v6 q = some res) (hk9 : (∀ a8, res = .inl a8 → PF7_parts l Q 16 [(0, .ref 0), (1, .int a8.1), (2, .long a8.2.1), (4, .long a8.2.2.1), (6, .int a8.2.2.2.1)] [] a8.2.2.2.2) ∧ (∀ b9, res = .inr b9 → Q (some (.int b9.1)) b9.2)) : PF7_parts l Q 165 [(0, .ref 0), (1, .int v1), (2, .long v2), (4, .long v4), (6, .int v6)] [] q := by
  unfold F7_parts_165 at h
  obtain ⟨x7, ex7, h⟩ := sx_lt h
  refine sx_iinc (k9 := 4) (v := x7) (ls2 := [(6, .int x7), (0, .ref 0), (1, .int v1), (2, .long v2), (4, .long v4)]) dX7_parts_165 rfl (by rw [ex7, sx_ofI1]) (by decide) rfl ?_
  refine sx_goto (tgt := 16) dX7_parts_168 (by decide) ?_
  refine sx_locs [1, 2, 3, 4, 0] rfl ?_
  exact hk9.1 (v1, v2, v4, x7, q) (Option.some.inj h).symm
def F7_parts_152  (v6 : Int32) (v9 : Int64) (v11 : Int64) (v13 : Int64) (q : SQ) : Option ((Int32 × Int64 × Int64 × Int32 × SQ) ⊕ (Int32 × SQ)) :=
  sx_let (v9 * v11) (fun x13 => F7_parts_165  v6 v13 x13 v6 q)
set_option maxHeartbeats 400000 in
theorem F7_parts_152_ok (l : Launch)  {Q : Option Value → SQ → Prop} (v6 : Int32) (v9 : Int64) (v11 : Int64) (v13 : Int64) (q : SQ) {res : (Int32 × Int64 × Int64 × Int32 × SQ) ⊕ (Int32 × SQ)} (h : F7_parts_152  v6 v9 v11 v13 q = some res) (hk9 : (∀ a14, res = .inl a14 → PF7_parts l Q 16 [(0, .ref 0), (1, .int a14.1), (2, .long a14.2.1), (4, .long a14.2.2.1), (6, .int a14.2.2.2.1)] [] a14.2.2.2.2) ∧ (∀ b15, res = .inr b15 → Q (some (.int b15.1)) b15.2)) : PF7_parts l Q 152 [(0, .ref 0), (6, .int v6), (9, .long v9), (11, .long v11), (13, .long v13)] [] q := by
  unfold F7_parts_152 at h
  refine sx_iload dX7_parts_152 rfl ?_
  refine sx_istore_n (ls2 := [(1, .int v6), (0, .ref 0), (6, .int v6), (9, .long v9), (11, .long v11), (13, .long v13)]) dX7_parts_154 rfl (by decide) rfl ?_
  refine sx_lload dX7_parts_155 rfl ?_
  refine sx_lstore_n (ls2 := [(2, .long v13), (1, .int v6), (0, .ref 0), (6, .int v6), (9, .long v9), (11, .long v11), (13, .long v13)]) dX7_parts_157 rfl (by decide) rfl ?_
  refine sx_lload dX7_parts_158 rfl ?_
  refine sx_lload dX7_parts_160 rfl ?_
  refine sx_lmul dX7_parts_162 ?_
  obtain ⟨x13, ex13, h⟩ := sx_lt h
  refine sx_nmL ex13 ?_
  refine sx_lstore (ls2 := [(4, .long x13), (2, .long v13), (1, .int v6), (0, .ref 0), (6, .int v6), (9, .long v9), (11, .long v11), (13, .long v13)]) dX7_parts_163 (by decide) rfl ?_
  refine sx_locs [3, 2, 1, 0, 4] rfl ?_
  exact F7_parts_165_ok l  v6 v13 x13 v6 q h hk9
def F7_parts_128  (v1 : Int32) (v2 : Int64) (v4 : Int64) (v6 : Int32) (v9 : Int64) (v11 : Int64) (s0 : Int64) (q : SQ) : Option ((Int32 × Int64 × Int64 × Int32 × SQ) ⊕ (Int32 × SQ)) :=
  (if v1 = (-9 : Int32) then F7_parts_152  v6 v9 v11 s0 q else (if lg_cmp (s0 * v4) ((v2 * v9) * v11) ≤ 0 then F7_parts_165  v1 v2 v4 v6 q else F7_parts_152  v6 v9 v11 s0 q))
set_option maxHeartbeats 400000 in
theorem F7_parts_128_ok (l : Launch)  {Q : Option Value → SQ → Prop} (v1 : Int32) (v2 : Int64) (v4 : Int64) (v6 : Int32) (v9 : Int64) (v11 : Int64) (s0 : Int64) (q : SQ) {res : (Int32 × Int64 × Int64 × Int32 × SQ) ⊕ (Int32 × SQ)} (h : F7_parts_128  v1 v2 v4 v6 v9 v11 s0 q = some res) (hk9 : (∀ a16, res = .inl a16 → PF7_parts l Q 16 [(0, .ref 0), (1, .int a16.1), (2, .long a16.2.1), (4, .long a16.2.2.1), (6, .int a16.2.2.2.1)] [] a16.2.2.2.2) ∧ (∀ b17, res = .inr b17 → Q (some (.int b17.1)) b17.2)) : PF7_parts l Q 128 [(0, .ref 0), (1, .int v1), (2, .long v2), (4, .long v4), (6, .int v6), (9, .long v9), (11, .long v11)] [.long s0] q := by
  unfold F7_parts_128 at h
  refine sx_lstore (ls2 := [(13, .long s0), (0, .ref 0), (1, .int v1), (2, .long v2), (4, .long v4), (6, .int v6), (9, .long v9), (11, .long v11)]) dX7_parts_128 (by decide) rfl ?_
  refine sx_iload_n dX7_parts_130 rfl rfl ?_
  refine sx_bipush (v := (-9 : Int32)) dX7_parts_131 (by decide) ?_
  refine sx_icmp_eq (tgt := 152) dX7_parts_133 (by decide) (fun c9 => ?_) (fun c9 => ?_)
  · replace h := sx_ip h c9
    refine sx_locs [1, 5, 6, 7, 0] rfl ?_
    exact F7_parts_152_ok l  v6 v9 v11 s0 q h hk9
  · replace h := sx_in h c9
    refine sx_lload dX7_parts_136 rfl ?_
    refine sx_lload dX7_parts_138 rfl ?_
    refine sx_lmul dX7_parts_140 ?_
    refine sx_lload_n dX7_parts_141 rfl rfl ?_
    refine sx_lload dX7_parts_142 rfl ?_
    refine sx_lmul dX7_parts_144 ?_
    refine sx_lload dX7_parts_145 rfl ?_
    refine sx_lmul dX7_parts_147 ?_
    refine sx_lcmp dX7_parts_148 ?_
    refine sx_if_le (tgt := 165) dX7_parts_149 (by decide) (fun c9 => ?_) (fun c9 => ?_)
    · replace h := sx_ip h c9
      refine sx_locs [1, 2, 3, 4, 5] rfl ?_
      exact F7_parts_165_ok l  v1 v2 v4 v6 q h hk9
    · replace h := sx_in h c9
      refine sx_locs [1, 5, 6, 7, 0] rfl ?_
      exact F7_parts_152_ok l  v6 v9 v11 s0 q h hk9
def F7_parts_48  (v1 : Int32) (v2 : Int64) (v4 : Int64) (v6 : Int32) (s0 : Int32) (q : SQ) : Option ((Int32 × Int64 × Int64 × Int32 × SQ) ⊕ (Int32 × SQ)) :=
  sx_let ((255 : Int32) - s0) (fun x2 => (F7_manyOf  s0 q).bind (fun z3 => sx_let z3.1.toInt64 (fun x4 => (F7_manyOf  x2 z3.2).bind (fun z5 => sx_let z5.1.toInt64 (fun x6 => (if lg_cmp x4 (0 : Int64) ≤ 0 then F7_parts_165  v1 v2 v4 v6 z5.2 else (if lg_cmp x6 (0 : Int64) ≤ 0 then F7_parts_165  v1 v2 v4 v6 z5.2 else (F7_sumOf  s0 z5.2).bind (fun z10 => (F7_sumOf  x2 z10.2).bind (fun z11 => sx_let ((z10.1.toInt64 * x6) - (z11.1.toInt64 * x4)) (fun x12 => (if 0 ≤ lg_cmp x12 (0 : Int64) then F7_parts_128  v1 v2 v4 v6 x4 x6 x12 z11.2 else F7_parts_128  v1 v2 v4 v6 x4 x6 (0 - x12) z11.2)))))))))))
set_option maxHeartbeats 400000 in
theorem F7_parts_48_ok (l : Launch)  {Q : Option Value → SQ → Prop} (v1 : Int32) (v2 : Int64) (v4 : Int64) (v6 : Int32) (s0 : Int32) (q : SQ) {res : (Int32 × Int64 × Int64 × Int32 × SQ) ⊕ (Int32 × SQ)} (h : F7_parts_48  v1 v2 v4 v6 s0 q = some res) (hk9 : (∀ a18, res = .inl a18 → PF7_parts l Q 16 [(0, .ref 0), (1, .int a18.1), (2, .long a18.2.1), (4, .long a18.2.2.1), (6, .int a18.2.2.2.1)] [] a18.2.2.2.2) ∧ (∀ b19, res = .inr b19 → Q (some (.int b19.1)) b19.2)) : PF7_parts l Q 48 [(0, .ref 0), (1, .int v1), (2, .long v2), (4, .long v4), (6, .int v6)] [.int s0] q := by
  unfold F7_parts_48 at h
  refine sx_istore (ls2 := [(7, .int s0), (0, .ref 0), (1, .int v1), (2, .long v2), (4, .long v4), (6, .int v6)]) dX7_parts_48 (by decide) rfl ?_
  refine sx_sipush (v := (255 : Int32)) dX7_parts_50 (by decide) ?_
  refine sx_iload dX7_parts_53 rfl ?_
  refine sx_isub dX7_parts_55 ?_
  obtain ⟨x2, ex2, h⟩ := sx_lt h
  refine sx_nmI ex2 ?_
  refine sx_istore (ls2 := [(8, .int x2), (7, .int s0), (0, .ref 0), (1, .int v1), (2, .long v2), (4, .long v4), (6, .int v6)]) dX7_parts_56 (by decide) rfl ?_
  refine sx_aload_n dX7_parts_58 rfl rfl ?_
  refine sx_iload dX7_parts_59 rfl ?_
  obtain ⟨z3, hz3, h⟩ := sx_bd h
  refine sx_callV (o := 0) (As := [.int s0]) (rest := []) KSM (F7_manyOf_ck l  s0 q hz3) mi_X7_manyOf gw_1081 rfl ⟨gw_1083, gw_58⟩ shM_0 rfl rfl ⟨Nat.le_of_ble_eq_true rfl, Nat.le_of_ble_eq_true rfl⟩ (Nat.le_of_ble_eq_true rfl) dX7_parts_61 rfl ?_
  refine sx_i2l dX7_parts_64 ?_
  obtain ⟨x4, ex4, h⟩ := sx_lt h
  refine sx_nmL ex4 ?_
  refine sx_lstore (ls2 := [(9, .long x4), (8, .int x2), (7, .int s0), (0, .ref 0), (1, .int v1), (2, .long v2), (4, .long v4), (6, .int v6)]) dX7_parts_65 (by decide) rfl ?_
  refine sx_aload_n dX7_parts_67 rfl rfl ?_
  refine sx_iload dX7_parts_68 rfl ?_
  obtain ⟨z5, hz5, h⟩ := sx_bd h
  refine sx_callV (o := 0) (As := [.int x2]) (rest := []) KSM (F7_manyOf_ck l  x2 z3.2 hz5) mi_X7_manyOf gw_1081 rfl ⟨gw_1083, gw_58⟩ shM_0 rfl rfl ⟨Nat.le_of_ble_eq_true rfl, Nat.le_of_ble_eq_true rfl⟩ (Nat.le_of_ble_eq_true rfl) dX7_parts_70 rfl ?_
  refine sx_i2l dX7_parts_73 ?_
  obtain ⟨x6, ex6, h⟩ := sx_lt h
  refine sx_nmL ex6 ?_
  refine sx_lstore (ls2 := [(11, .long x6), (9, .long x4), (8, .int x2), (7, .int s0), (0, .ref 0), (1, .int v1), (2, .long v2), (4, .long v4), (6, .int v6)]) dX7_parts_74 (by decide) rfl ?_
  refine sx_lload dX7_parts_76 rfl ?_
  refine sx_lconst (v := (0 : Int64)) dX7_parts_78 (by decide) ?_
  refine sx_lcmp dX7_parts_79 ?_
  refine sx_if_le (tgt := 165) dX7_parts_80 (by decide) (fun c9 => ?_) (fun c9 => ?_)
  · replace h := sx_ip h c9
    refine sx_locs [4, 5, 6, 7, 8] rfl ?_
    exact F7_parts_165_ok l  v1 v2 v4 v6 z5.2 h hk9
  · replace h := sx_in h c9
    refine sx_lload dX7_parts_83 rfl ?_
    refine sx_lconst (v := (0 : Int64)) dX7_parts_85 (by decide) ?_
    refine sx_lcmp dX7_parts_86 ?_
    refine sx_if_le (tgt := 165) dX7_parts_87 (by decide) (fun c9 => ?_) (fun c9 => ?_)
    · replace h := sx_ip h c9
      refine sx_locs [4, 5, 6, 7, 8] rfl ?_
      exact F7_parts_165_ok l  v1 v2 v4 v6 z5.2 h hk9
    · replace h := sx_in h c9
      refine sx_aload_n dX7_parts_90 rfl rfl ?_
      refine sx_iload dX7_parts_91 rfl ?_
      obtain ⟨z10, hz10, h⟩ := sx_bd h
      refine sx_callV (o := 0) (As := [.int s0]) (rest := []) KSM (F7_sumOf_ck l  s0 z5.2 hz10) mi_X7_sumOf gw_1077 rfl ⟨gw_1079, gw_57⟩ shM_0 rfl rfl ⟨Nat.le_of_ble_eq_true rfl, Nat.le_of_ble_eq_true rfl⟩ (Nat.le_of_ble_eq_true rfl) dX7_parts_93 rfl ?_
      refine sx_i2l dX7_parts_96 ?_
      refine sx_lload dX7_parts_97 rfl ?_
      refine sx_lmul dX7_parts_99 ?_
      refine sx_aload_n dX7_parts_100 rfl rfl ?_
      refine sx_iload dX7_parts_101 rfl ?_
      obtain ⟨z11, hz11, h⟩ := sx_bd h
      refine sx_callV (o := 0) (As := [.int x2]) (rest := [.long (z10.1.toInt64 * x6)]) KSM (F7_sumOf_ck l  x2 z10.2 hz11) mi_X7_sumOf gw_1077 rfl ⟨gw_1079, gw_57⟩ shM_0 rfl rfl ⟨Nat.le_of_ble_eq_true rfl, Nat.le_of_ble_eq_true rfl⟩ (Nat.le_of_ble_eq_true rfl) dX7_parts_103 rfl ?_
      refine sx_i2l dX7_parts_106 ?_
      refine sx_lload dX7_parts_107 rfl ?_
      refine sx_lmul dX7_parts_109 ?_
      refine sx_lsub dX7_parts_110 ?_
      obtain ⟨x12, ex12, h⟩ := sx_lt h
      refine sx_nmL ex12 ?_
      refine sx_lstore (ls2 := [(13, .long x12), (11, .long x6), (9, .long x4), (8, .int x2), (7, .int s0), (0, .ref 0), (1, .int v1), (2, .long v2), (4, .long v4), (6, .int v6)]) dX7_parts_111 (by decide) rfl ?_
      refine sx_lload dX7_parts_113 rfl ?_
      refine sx_lconst (v := (0 : Int64)) dX7_parts_115 (by decide) ?_
      refine sx_lcmp dX7_parts_116 ?_
      refine sx_if_ge (tgt := 126) dX7_parts_117 (by decide) (fun c9 => ?_) (fun c9 => ?_)
      · replace h := sx_ip h c9
        refine sx_lload dX7_parts_126 rfl ?_
        refine sx_locs [5, 6, 7, 8, 9, 2, 1] rfl ?_
        exact F7_parts_128_ok l  v1 v2 v4 v6 x4 x6 x12 z11.2 h hk9
      · replace h := sx_in h c9
        refine sx_lload dX7_parts_120 rfl ?_
        refine sx_lneg dX7_parts_122 ?_
        refine sx_goto (tgt := 128) dX7_parts_123 (by decide) ?_
        refine sx_locs [5, 6, 7, 8, 9, 2, 1] rfl ?_
        exact F7_parts_128_ok l  v1 v2 v4 v6 x4 x6 (0 - x12) z11.2 h hk9
def F7_parts_16b  (v1 : Int32) (v2 : Int64) (v4 : Int64) (v6 : Int32) (q : SQ) : Option ((Int32 × Int64 × Int64 × Int32 × SQ) ⊕ (Int32 × SQ)) :=
  (if (3 : Int32) ≤ v6 then some (.inr (v1, q)) else (if v6 = 0 then F7_parts_48  v1 v2 v4 v6 (170 : Int32) q else (if v6 = (1 : Int32) then F7_parts_48  v1 v2 v4 v6 (204 : Int32) q else F7_parts_48  v1 v2 v4 v6 (240 : Int32) q)))
set_option maxHeartbeats 400000 in
theorem F7_parts_16b_ok (l : Launch)  {Q : Option Value → SQ → Prop} (v1 : Int32) (v2 : Int64) (v4 : Int64) (v6 : Int32) (q : SQ) {res : (Int32 × Int64 × Int64 × Int32 × SQ) ⊕ (Int32 × SQ)} (h : F7_parts_16b  v1 v2 v4 v6 q = some res) (hk9 : (∀ a20, res = .inl a20 → PF7_parts l Q 16 [(0, .ref 0), (1, .int a20.1), (2, .long a20.2.1), (4, .long a20.2.2.1), (6, .int a20.2.2.2.1)] [] a20.2.2.2.2) ∧ (∀ b21, res = .inr b21 → Q (some (.int b21.1)) b21.2)) : PF7_parts l Q 16 [(0, .ref 0), (1, .int v1), (2, .long v2), (4, .long v4), (6, .int v6)] [] q := by
  unfold F7_parts_16b at h
  refine sx_iload dX7_parts_16 rfl ?_
  refine sx_iconst (v := (3 : Int32)) dX7_parts_18 (by decide) ?_
  refine sx_icmp_ge (tgt := 171) dX7_parts_19 (by decide) (fun c9 => ?_) (fun c9 => ?_)
  · replace h := sx_ip h c9
    refine sx_iload_n dX7_parts_171 rfl rfl ?_
    have hk9 := hk9.2 _ (Option.some.inj h).symm
    exact sx_iret dX7_parts_172 rfl hk9
  · replace h := sx_in h c9
    refine sx_iload dX7_parts_22 rfl ?_
    refine sx_if_ne (tgt := 33) dX7_parts_24 (by decide) (fun c9 => ?_) (fun c9 => ?_)
    · replace h := sx_in h c9
      refine sx_iload dX7_parts_33 rfl ?_
      refine sx_iconst (v := (1 : Int32)) dX7_parts_35 (by decide) ?_
      refine sx_icmp_ne (tgt := 45) dX7_parts_36 (by decide) (fun c9 => ?_) (fun c9 => ?_)
      · replace h := sx_in h c9
        refine sx_sipush (v := (240 : Int32)) dX7_parts_45 (by decide) ?_
        exact F7_parts_48_ok l  v1 v2 v4 v6 (240 : Int32) q h hk9
      · replace h := sx_ip h c9
        refine sx_sipush (v := (204 : Int32)) dX7_parts_39 (by decide) ?_
        refine sx_goto (tgt := 48) dX7_parts_42 (by decide) ?_
        exact F7_parts_48_ok l  v1 v2 v4 v6 (204 : Int32) q h hk9
    · replace h := sx_ip h c9
      refine sx_sipush (v := (170 : Int32)) dX7_parts_27 (by decide) ?_
      refine sx_goto (tgt := 48) dX7_parts_30 (by decide) ?_
      exact F7_parts_48_ok l  v1 v2 v4 v6 (170 : Int32) q h hk9
def F7_parts_16  (v1 : Int32) (v2 : Int64) (v4 : Int64) (v6 : Int32) (q : SQ) : Option (Int32 × SQ) := sx_loop (fun s22 => F7_parts_16b  s22.1 s22.2.1 s22.2.2.1 s22.2.2.2.1 s22.2.2.2.2) FU (v1, v2, v4, v6, q)
set_option maxHeartbeats 400000 in
theorem F7_parts_16_ok (l : Launch)  {Q : Option Value → SQ → Prop} (v1 : Int32) (v2 : Int64) (v4 : Int64) (v6 : Int32) (q : SQ) {t : Int32 × SQ} (h : F7_parts_16  v1 v2 v4 v6 q = some t) (hk9 : Q (some (.int t.1)) t.2) : PF7_parts l Q 16 [(0, .ref 0), (1, .int v1), (2, .long v2), (4, .long v4), (6, .int v6)] [] q := by
  unfold F7_parts_16 at h
  have st : ∀ (s : Int32 × Int64 × Int64 × Int32 × SQ) (res : (Int32 × Int64 × Int64 × Int32 × SQ) ⊕ (Int32 × SQ)), F7_parts_16b  s.1 s.2.1 s.2.2.1 s.2.2.2.1 s.2.2.2.2 = some res → (∀ s2, res = .inl s2 → PF7_parts l Q 16 [(0, .ref 0), (1, .int s2.1), (2, .long s2.2.1), (4, .long s2.2.2.1), (6, .int s2.2.2.2.1)] [] s2.2.2.2.2) → (∀ t2, res = .inr t2 → Q (some (.int t2.1)) t2.2) → PF7_parts l Q 16 [(0, .ref 0), (1, .int s.1), (2, .long s.2.1), (4, .long s.2.2.1), (6, .int s.2.2.2.1)] [] s.2.2.2.2 :=
    fun s res hb hi ho => F7_parts_16b_ok l  s.1 s.2.1 s.2.2.1 s.2.2.2.1 s.2.2.2.2 hb ⟨hi, ho⟩
  have h9 : PF7_parts l Q 16 [(0, .ref 0), (1, .int v1), (2, .long v2), (4, .long v4), (6, .int v6)] [] q := sx_lp (body := fun s => F7_parts_16b  s.1 s.2.1 s.2.2.1 s.2.2.2.1 s.2.2.2.2) (P := fun s => PF7_parts l Q 16 [(0, .ref 0), (1, .int s.1), (2, .long s.2.1), (4, .long s.2.2.1), (6, .int s.2.2.2.1)] [] s.2.2.2.2) (T := fun t => Q (some (.int t.1)) t.2) st FU (v1, v2, v4, v6, q) t h hk9
  exact h9
def F7_parts   (q : SQ) : Option (Int32 × SQ) :=
  sx_let (sI q 0 0 (0 : Int32)) (fun q1 => F7_parts_16  (-9 : Int32) (0 : Int64) (1 : Int64) (0 : Int32) q1)
set_option maxHeartbeats 400000 in
theorem F7_parts_ok (l : Launch)  {Q : Option Value → SQ → Prop}  (q : SQ) {res : Int32 × SQ} (h : F7_parts   q = some res) (hk9 : Q (some (.int res.1)) res.2) : PF7_parts l Q 0 [(0, .ref 0)] [] q := by
  unfold F7_parts at h
  refine sx_aload_n dX7_parts_0 rfl rfl ?_
  refine sx_iconst (v := (0 : Int32)) dX7_parts_1 (by decide) ?_
  obtain ⟨q1, eq1, h⟩ := sx_lt h
  refine sx_putI dX7_parts_2 (hs := shM_0) (k9 := 0) (hf := rfl) cb_X7 ⟨by decide, rfl, gw_799⟩ rfl (by decide) ?_
  refine sx_nmQ eq1 ?_
  refine sx_bipush (v := (-9 : Int32)) dX7_parts_5 (by decide) ?_
  refine sx_istore_n (ls2 := [(1, .int (-9 : Int32)), (0, .ref 0)]) dX7_parts_7 rfl (by decide) rfl ?_
  refine sx_lconst (v := (0 : Int64)) dX7_parts_8 (by decide) ?_
  refine sx_lstore_n (ls2 := [(2, .long (0 : Int64)), (1, .int (-9 : Int32)), (0, .ref 0)]) dX7_parts_9 rfl (by decide) rfl ?_
  refine sx_lconst (v := (1 : Int64)) dX7_parts_10 (by decide) ?_
  refine sx_lstore (ls2 := [(4, .long (1 : Int64)), (2, .long (0 : Int64)), (1, .int (-9 : Int32)), (0, .ref 0)]) dX7_parts_11 (by decide) rfl ?_
  refine sx_iconst (v := (0 : Int32)) dX7_parts_13 (by decide) ?_
  refine sx_istore (ls2 := [(6, .int (0 : Int32)), (4, .long (1 : Int64)), (2, .long (0 : Int64)), (1, .int (-9 : Int32)), (0, .ref 0)]) dX7_parts_14 (by decide) rfl ?_
  refine sx_locs [4, 3, 2, 1, 0] rfl ?_
  exact F7_parts_16_ok l  (-9 : Int32) (0 : Int64) (1 : Int64) (0 : Int32) q1 h hk9
theorem F7_parts_ck (l : Launch)   (q : SQ) {r : Int32 × SQ} (h : F7_parts   q = some r) : CK shM vwCl KM tfM l yX7_parts cX7_parts 15 ((some .int)) 1 23 [.ref 0] q (some (.int r.1)) r.2 :=
  CK.of mi_X7_parts (Nat.le_of_ble_eq_true rfl) (F7_parts_ok l   q h ⟨rfl, rfl⟩)
theorem mi_X7_ahead : sx_MI yX7_ahead cX7_ahead 3 ((some .int)) 2 := ⟨by decide, ⟨by decide, by decide, by decide +kernel⟩, gw_1096, gw_68⟩
abbrev PF7_ahead (l : Launch) (Q : Option Value → SQ → Prop) : Nat → List (Nat × Value) → List Value → SQ → Prop := XX shM vwCl KM tfM l RX7 cX7_ahead 3 ((some .int)) { frames := 2, cells := 0, slots := 0, locals := 49 } Q
def F7_ahead_24   (q : SQ) : Option (Int32 × SQ) :=
  some ((-1000000 : Int32), q)
set_option maxHeartbeats 400000 in
theorem F7_ahead_24_ok (l : Launch)  {Q : Option Value → SQ → Prop}  (q : SQ) {res : Int32 × SQ} (h : F7_ahead_24   q = some res) (hk9 : Q (some (.int res.1)) res.2) : PF7_ahead l Q 24 [] [] q := by
  unfold F7_ahead_24 at h
  refine sx_ldc (v := (-1000000 : Int32)) dX7_ahead_24 gw_1085 ?_
  obtain rfl := Option.some.inj h
  exact sx_iret dX7_ahead_26 rfl hk9
def F7_ahead_47  (v2 : Int32) (s0 : Int32) (q : SQ) : Option (Int32 × SQ) :=
  (F7_meanOf  s0 v2 q).bind (fun z5 => some (z5.1, z5.2))
set_option maxHeartbeats 400000 in
theorem F7_ahead_47_ok (l : Launch)  {Q : Option Value → SQ → Prop} (v2 : Int32) (s0 : Int32) (q : SQ) {res : Int32 × SQ} (h : F7_ahead_47  v2 s0 q = some res) (hk9 : Q (some (.int res.1)) res.2) : PF7_ahead l Q 47 [(2, .int v2)] [.int s0, .ref 0] q := by
  unfold F7_ahead_47 at h
  refine sx_iload_n dX7_ahead_47 rfl rfl ?_
  obtain ⟨z5, hz5, h⟩ := sx_bd h
  refine sx_callV (o := 0) (As := [.int s0, .int v2]) (rest := []) KSM (F7_meanOf_ck l  s0 v2 q hz5) mi_X7_meanOf gw_1073 rfl ⟨gw_1075, gw_56⟩ shM_0 rfl rfl ⟨Nat.le_of_ble_eq_true rfl, Nat.le_of_ble_eq_true rfl⟩ (Nat.le_of_ble_eq_true rfl) dX7_ahead_48 rfl ?_
  obtain rfl := Option.some.inj h
  exact sx_iret dX7_ahead_51 rfl hk9
def F7_ahead  (v1 : Int32) (v2 : Int32) (q : SQ) : Option (Int32 × SQ) :=
  sx_let (sI q 0 0 (0 : Int32)) (fun q1 => (F7_in  v1 (0 : Int32) (7 : Int32) q1).bind (fun z2 => (if z2.1 = 0 then F7_ahead_24   z2.2 else (F7_in  v2 (0 : Int32) (1 : Int32) z2.2).bind (fun z3 => (if z3.1 = 0 then F7_ahead_24   z3.2 else (F7_manyOf  ((1 : Int32) <<< (v1 &&& 31)) z3.2).bind (fun z4 => (if z4.1 ≤ 0 then F7_ahead_47  v2 (255 : Int32) z4.2 else F7_ahead_47  v2 ((1 : Int32) <<< (v1 &&& 31)) z4.2)))))))
set_option maxHeartbeats 400000 in
theorem F7_ahead_ok (l : Launch)  {Q : Option Value → SQ → Prop} (v1 : Int32) (v2 : Int32) (q : SQ) {res : Int32 × SQ} (h : F7_ahead  v1 v2 q = some res) (hk9 : Q (some (.int res.1)) res.2) : PF7_ahead l Q 0 [(0, .ref 0), (1, .int v1), (2, .int v2)] [] q := by
  unfold F7_ahead at h
  refine sx_aload_n dX7_ahead_0 rfl rfl ?_
  refine sx_iconst (v := (0 : Int32)) dX7_ahead_1 (by decide) ?_
  obtain ⟨q1, eq1, h⟩ := sx_lt h
  refine sx_putI dX7_ahead_2 (hs := shM_0) (k9 := 0) (hf := rfl) cb_X7 ⟨by decide, rfl, gw_799⟩ rfl (by decide) ?_
  refine sx_nmQ eq1 ?_
  refine sx_iload_n dX7_ahead_5 rfl rfl ?_
  refine sx_iconst (v := (0 : Int32)) dX7_ahead_6 (by decide) ?_
  refine sx_bipush (v := (7 : Int32)) dX7_ahead_7 (by decide) ?_
  obtain ⟨z2, hz2, h⟩ := sx_bd h
  refine sx_callS (As := [.int v1, .int (0 : Int32), .int (7 : Int32)]) (rest := []) KSM (F7_in_ck l  v1 (0 : Int32) (7 : Int32) q1 hz2) mi_X7_in gw_865 rfl gw_866 ⟨Nat.le_of_ble_eq_true rfl, Nat.le_of_ble_eq_true rfl⟩ (Nat.le_of_ble_eq_true rfl) dX7_ahead_9 rfl ?_
  refine sx_if_eq (tgt := 24) dX7_ahead_12 (by decide) (fun c9 => ?_) (fun c9 => ?_)
  · replace h := sx_ip h c9
    refine sx_locs [] rfl ?_
    exact F7_ahead_24_ok l   z2.2 h hk9
  · replace h := sx_in h c9
    refine sx_iload_n dX7_ahead_15 rfl rfl ?_
    refine sx_iconst (v := (0 : Int32)) dX7_ahead_16 (by decide) ?_
    refine sx_iconst (v := (1 : Int32)) dX7_ahead_17 (by decide) ?_
    obtain ⟨z3, hz3, h⟩ := sx_bd h
    refine sx_callS (As := [.int v2, .int (0 : Int32), .int (1 : Int32)]) (rest := []) KSM (F7_in_ck l  v2 (0 : Int32) (1 : Int32) z2.2 hz3) mi_X7_in gw_865 rfl gw_866 ⟨Nat.le_of_ble_eq_true rfl, Nat.le_of_ble_eq_true rfl⟩ (Nat.le_of_ble_eq_true rfl) dX7_ahead_18 rfl ?_
    refine sx_if_ne (tgt := 27) dX7_ahead_21 (by decide) (fun c9 => ?_) (fun c9 => ?_)
    · replace h := sx_in h c9
      refine sx_aload_n dX7_ahead_27 rfl rfl ?_
      refine sx_aload_n dX7_ahead_28 rfl rfl ?_
      refine sx_iconst (v := (1 : Int32)) dX7_ahead_29 (by decide) ?_
      refine sx_iload_n dX7_ahead_30 rfl rfl ?_
      refine sx_ishl dX7_ahead_31 ?_
      obtain ⟨z4, hz4, h⟩ := sx_bd h
      refine sx_callV (o := 0) (As := [.int ((1 : Int32) <<< (v1 &&& 31))]) (rest := [.ref 0]) KSM (F7_manyOf_ck l  ((1 : Int32) <<< (v1 &&& 31)) z3.2 hz4) mi_X7_manyOf gw_1081 rfl ⟨gw_1083, gw_58⟩ shM_0 rfl rfl ⟨Nat.le_of_ble_eq_true rfl, Nat.le_of_ble_eq_true rfl⟩ (Nat.le_of_ble_eq_true rfl) dX7_ahead_32 rfl ?_
      refine sx_if_le (tgt := 44) dX7_ahead_35 (by decide) (fun c9 => ?_) (fun c9 => ?_)
      · replace h := sx_ip h c9
        refine sx_sipush (v := (255 : Int32)) dX7_ahead_44 (by decide) ?_
        refine sx_locs [2] rfl ?_
        exact F7_ahead_47_ok l  v2 (255 : Int32) z4.2 h hk9
      · replace h := sx_in h c9
        refine sx_iconst (v := (1 : Int32)) dX7_ahead_38 (by decide) ?_
        refine sx_iload_n dX7_ahead_39 rfl rfl ?_
        refine sx_ishl dX7_ahead_40 ?_
        refine sx_goto (tgt := 47) dX7_ahead_41 (by decide) ?_
        refine sx_locs [2] rfl ?_
        exact F7_ahead_47_ok l  v2 ((1 : Int32) <<< (v1 &&& 31)) z4.2 h hk9
    · replace h := sx_ip h c9
      refine sx_locs [] rfl ?_
      exact F7_ahead_24_ok l   z3.2 h hk9
theorem F7_ahead_ck (l : Launch)  (v1 : Int32) (v2 : Int32) (q : SQ) {r : Int32 × SQ} (h : F7_ahead  v1 v2 q = some r) : CK shM vwCl KM tfM l yX7_ahead cX7_ahead 3 ((some .int)) 2 49 [.ref 0, .int v1, .int v2] q (some (.int r.1)) r.2 :=
  CK.of mi_X7_ahead (Nat.le_of_ble_eq_true rfl) (F7_ahead_ok l  v1 v2 q h ⟨rfl, rfl⟩)
theorem mi_X7_halves : sx_MI yX7_halves cX7_halves 5 ((some .int)) 1 := ⟨by decide, ⟨by decide, by decide, by decide +kernel⟩, gw_1100, gw_68⟩
abbrev PF7_halves (l : Launch) (Q : Option Value → SQ → Prop) : Nat → List (Nat × Value) → List Value → SQ → Prop := XX shM vwCl KM tfM l RX7 cX7_halves 5 ((some .int)) { frames := 6, cells := 0, slots := 0, locals := 151 } Q
def F7_halves_186  (v2 : Int32) (v4 : Int32) (s0 : Int32) (s1 : Int32) (q : SQ) : Option ((Int32 × Int32 × SQ) ⊕ (Int32 × SQ)) :=
  sx_let (s1 + s0) (fun x6 => sx_let (v4 + (1 : Int32)) (fun x7 => some (.inl (x6, x7, q))))
set_option maxHeartbeats 400000 in
theorem F7_halves_186_ok (l : Launch)  {Q : Option Value → SQ → Prop} (v2 : Int32) (v4 : Int32) (s0 : Int32) (s1 : Int32) (q : SQ) {res : (Int32 × Int32 × SQ) ⊕ (Int32 × SQ)} (h : F7_halves_186  v2 v4 s0 s1 q = some res) (hk9 : (∀ a8, res = .inl a8 → PF7_halves l Q 137 [(0, .ref 0), (2, .int v2), (3, .int a8.1), (4, .int a8.2.1)] [] a8.2.2) ∧ (∀ b9, res = .inr b9 → Q (some (.int b9.1)) b9.2)) : PF7_halves l Q 186 [(0, .ref 0), (2, .int v2), (4, .int v4)] [.int s0, .int s1] q := by
  unfold F7_halves_186 at h
  refine sx_iadd dX7_halves_186 ?_
  obtain ⟨x6, ex6, h⟩ := sx_lt h
  refine sx_nmI ex6 ?_
  refine sx_istore_n (ls2 := [(3, .int x6), (0, .ref 0), (2, .int v2), (4, .int v4)]) dX7_halves_187 rfl (by decide) rfl ?_
  obtain ⟨x7, ex7, h⟩ := sx_lt h
  refine sx_iinc (k9 := 3) (v := x7) (ls2 := [(4, .int x7), (3, .int x6), (0, .ref 0), (2, .int v2)]) dX7_halves_188 rfl (by rw [ex7, sx_ofI1]) (by decide) rfl ?_
  refine sx_goto (tgt := 137) dX7_halves_191 (by decide) ?_
  refine sx_locs [2, 3, 1, 0] rfl ?_
  exact hk9.1 (x6, x7, q) (Option.some.inj h).symm
def F7_halves_137b  (v2 : Int32) (v3 : Int32) (v4 : Int32) (q : SQ) : Option ((Int32 × Int32 × SQ) ⊕ (Int32 × SQ)) :=
  (if gI q 2 40 ≤ v4 then (F7_aside  (0 : Int32) q).bind (fun z5 => some (.inr (v3, z5.2))) else (if (v2 >>> (v4 &&& 31)) &&& (1 : Int32) = (1 : Int32) then (if sx_ix ((3 : Int32) + ((3 : Int32) * v4)) 27 = true then F7_halves_186  v2 v4 (gI q 7 ((3 : Int32) + ((3 : Int32) * v4)).toNatClampNeg) v3 q else none) else (if sx_ix ((3 : Int32) + ((3 : Int32) * v4)) 27 = true then F7_halves_186  v2 v4 (0 - (gI q 7 ((3 : Int32) + ((3 : Int32) * v4)).toNatClampNeg)) v3 q else none)))
set_option maxHeartbeats 400000 in
theorem F7_halves_137b_ok (l : Launch)  {Q : Option Value → SQ → Prop} (v2 : Int32) (v3 : Int32) (v4 : Int32) (q : SQ) {res : (Int32 × Int32 × SQ) ⊕ (Int32 × SQ)} (h : F7_halves_137b  v2 v3 v4 q = some res) (hk9 : (∀ a10, res = .inl a10 → PF7_halves l Q 137 [(0, .ref 0), (2, .int v2), (3, .int a10.1), (4, .int a10.2.1)] [] a10.2.2) ∧ (∀ b11, res = .inr b11 → Q (some (.int b11.1)) b11.2)) : PF7_halves l Q 137 [(0, .ref 0), (2, .int v2), (3, .int v3), (4, .int v4)] [] q := by
  unfold F7_halves_137b at h
  refine sx_iload dX7_halves_137 rfl ?_
  refine sx_aload_n dX7_halves_139 rfl rfl ?_
  refine sx_getR dX7_halves_140 (hs := shM_0) (k9 := 9) (hf := rfl) cb_X7 ⟨by decide, rfl, gw_808⟩ ?_
  refine sx_bipush (v := (40 : Int32)) dX7_halves_143 (by decide) ?_
  refine sx_ialdC (j9 := 40) dX7_halves_145 shM_2 (fun _ _ => rfl) (by decide) (by decide) ?_
  refine sx_icmp_ge (tgt := 194) dX7_halves_146 (by decide) (fun c9 => ?_) (fun c9 => ?_)
  · replace h := sx_ip h c9
    refine sx_aload_n dX7_halves_194 rfl rfl ?_
    refine sx_iconst (v := (0 : Int32)) dX7_halves_195 (by decide) ?_
    obtain ⟨z5, hz5, h⟩ := sx_bd h
    refine sx_callV (o := 0) (As := [.int (0 : Int32)]) (rest := []) KSM (F7_aside_ck l  (0 : Int32) q hz5) mi_X7_aside gw_1021 rfl ⟨gw_1023, gw_52⟩ shM_0 rfl rfl ⟨Nat.le_of_ble_eq_true rfl, Nat.le_of_ble_eq_true rfl⟩ (Nat.le_of_ble_eq_true rfl) dX7_halves_196 rfl ?_
    refine sx_iload_n dX7_halves_199 rfl rfl ?_
    have hk9 := hk9.2 _ (Option.some.inj h).symm
    exact sx_iret dX7_halves_200 rfl hk9
  · replace h := sx_in h c9
    refine sx_iload_n dX7_halves_149 rfl rfl ?_
    refine sx_iload_n dX7_halves_150 rfl rfl ?_
    refine sx_iload dX7_halves_151 rfl ?_
    refine sx_ishr dX7_halves_153 ?_
    refine sx_iconst (v := (1 : Int32)) dX7_halves_154 (by decide) ?_
    refine sx_iand dX7_halves_155 ?_
    refine sx_iconst (v := (1 : Int32)) dX7_halves_156 (by decide) ?_
    refine sx_icmp_ne (tgt := 174) dX7_halves_157 (by decide) (fun c9 => ?_) (fun c9 => ?_)
    · replace h := sx_in h c9
      refine sx_aload_n dX7_halves_174 rfl rfl ?_
      refine sx_getR dX7_halves_175 (hs := shM_0) (k9 := 14) (hf := rfl) cb_X7 ⟨by decide, rfl, gw_813⟩ ?_
      refine sx_iconst (v := (3 : Int32)) dX7_halves_178 (by decide) ?_
      refine sx_iconst (v := (3 : Int32)) dX7_halves_179 (by decide) ?_
      refine sx_iload dX7_halves_180 rfl ?_
      refine sx_imul dX7_halves_182 ?_
      refine sx_iadd dX7_halves_183 ?_
      obtain ⟨g9, h⟩ := sx_gd h
      refine sx_iald dX7_halves_184 shM_7 (fun _ _ => rfl) (sx_ix_in g9) ?_
      refine sx_ineg dX7_halves_185 ?_
      refine sx_locs [0, 1, 3] rfl ?_
      exact F7_halves_186_ok l  v2 v4 (0 - (gI q 7 ((3 : Int32) + ((3 : Int32) * v4)).toNatClampNeg)) v3 q h hk9
    · replace h := sx_ip h c9
      refine sx_aload_n dX7_halves_160 rfl rfl ?_
      refine sx_getR dX7_halves_161 (hs := shM_0) (k9 := 14) (hf := rfl) cb_X7 ⟨by decide, rfl, gw_813⟩ ?_
      refine sx_iconst (v := (3 : Int32)) dX7_halves_164 (by decide) ?_
      refine sx_iconst (v := (3 : Int32)) dX7_halves_165 (by decide) ?_
      refine sx_iload dX7_halves_166 rfl ?_
      refine sx_imul dX7_halves_168 ?_
      refine sx_iadd dX7_halves_169 ?_
      obtain ⟨g9, h⟩ := sx_gd h
      refine sx_iald dX7_halves_170 shM_7 (fun _ _ => rfl) (sx_ix_in g9) ?_
      refine sx_goto (tgt := 186) dX7_halves_171 (by decide) ?_
      refine sx_locs [0, 1, 3] rfl ?_
      exact F7_halves_186_ok l  v2 v4 (gI q 7 ((3 : Int32) + ((3 : Int32) * v4)).toNatClampNeg) v3 q h hk9
def F7_halves_137  (v2 : Int32) (v3 : Int32) (v4 : Int32) (q : SQ) : Option (Int32 × SQ) := sx_loop (fun s12 => F7_halves_137b  v2 s12.1 s12.2.1 s12.2.2) FU (v3, v4, q)
set_option maxHeartbeats 400000 in
theorem F7_halves_137_ok (l : Launch)  {Q : Option Value → SQ → Prop} (v2 : Int32) (v3 : Int32) (v4 : Int32) (q : SQ) {t : Int32 × SQ} (h : F7_halves_137  v2 v3 v4 q = some t) (hk9 : Q (some (.int t.1)) t.2) : PF7_halves l Q 137 [(0, .ref 0), (2, .int v2), (3, .int v3), (4, .int v4)] [] q := by
  unfold F7_halves_137 at h
  have st : ∀ (s : Int32 × Int32 × SQ) (res : (Int32 × Int32 × SQ) ⊕ (Int32 × SQ)), F7_halves_137b  v2 s.1 s.2.1 s.2.2 = some res → (∀ s2, res = .inl s2 → PF7_halves l Q 137 [(0, .ref 0), (2, .int v2), (3, .int s2.1), (4, .int s2.2.1)] [] s2.2.2) → (∀ t2, res = .inr t2 → Q (some (.int t2.1)) t2.2) → PF7_halves l Q 137 [(0, .ref 0), (2, .int v2), (3, .int s.1), (4, .int s.2.1)] [] s.2.2 :=
    fun s res hb hi ho => F7_halves_137b_ok l  v2 s.1 s.2.1 s.2.2 hb ⟨hi, ho⟩
  have h9 : PF7_halves l Q 137 [(0, .ref 0), (2, .int v2), (3, .int v3), (4, .int v4)] [] q := sx_lp (body := fun s => F7_halves_137b  v2 s.1 s.2.1 s.2.2) (P := fun s => PF7_halves l Q 137 [(0, .ref 0), (2, .int v2), (3, .int s.1), (4, .int s.2.1)] [] s.2.2) (T := fun t => Q (some (.int t.1)) t.2) st FU (v3, v4, q) t h hk9
  exact h9
def F7_halves_119  (v1 : Int32) (v2 : Int32) (v3 : Int32) (s0 : Int32) (s1 : Int32) (q : SQ) : Option ((Int32 × Int32 × SQ) ⊕ (Int32 × SQ)) :=
  (if sx_ix s1 84 = true then sx_let (sI q 2 s1.toNatClampNeg s0) (fun q15 => sx_let (v3 + (1 : Int32)) (fun x16 => some (.inl (v2, x16, q15)))) else none)
set_option maxHeartbeats 400000 in
theorem F7_halves_119_ok (l : Launch)  {Q : Option Value → SQ → Prop} (v1 : Int32) (v2 : Int32) (v3 : Int32) (s0 : Int32) (s1 : Int32) (q : SQ) {res : (Int32 × Int32 × SQ) ⊕ (Int32 × SQ)} (h : F7_halves_119  v1 v2 v3 s0 s1 q = some res) (hk9 : (∀ a17, res = .inl a17 → PF7_halves l Q 24 [(0, .ref 0), (1, .int v1), (2, .int a17.1), (3, .int a17.2.1)] [] a17.2.2) ∧ (∀ b18, res = .inr b18 → Q (some (.int b18.1)) b18.2)) : PF7_halves l Q 119 [(0, .ref 0), (1, .int v1), (2, .int v2), (3, .int v3)] [.int s0, .int s1, .ref 2] q := by
  unfold F7_halves_119 at h
  obtain ⟨g9, h⟩ := sx_gd h
  obtain ⟨q15, eq15, h⟩ := sx_lt h
  refine sx_iast dX7_halves_119 shM_2 (fun _ _ => rfl) (sx_ix_in g9) ?_
  refine sx_nmQ eq15 ?_
  obtain ⟨x16, ex16, h⟩ := sx_lt h
  refine sx_iinc (k9 := 3) (v := x16) (ls2 := [(3, .int x16), (0, .ref 0), (1, .int v1), (2, .int v2)]) dX7_halves_120 rfl (by rw [ex16, sx_ofI1]) (by decide) rfl ?_
  refine sx_goto (tgt := 24) dX7_halves_123 (by decide) ?_
  refine sx_locs [1, 2, 3, 0] rfl ?_
  exact hk9.1 (v2, x16, q15) (Option.some.inj h).symm
def F7_halves_89  (v1 : Int32) (v3 : Int32) (v4 : Int32) (s0 : Int32) (s1 : Int32) (q : SQ) : Option ((Int32 × Int32 × SQ) ⊕ (Int32 × SQ)) :=
  sx_let (s1 ||| s0) (fun x14 => (if v4 = 0 then F7_halves_119  v1 x14 v3 (0 : Int32) (((3 : Int32) * v3) + (2 : Int32)) q else (if sx_ix (((3 : Int32) * v3) + (2 : Int32)) 84 = true then F7_halves_119  v1 x14 v3 (gI q 2 (((3 : Int32) * v3) + (2 : Int32)).toNatClampNeg) (((3 : Int32) * v3) + (2 : Int32)) q else none)))
set_option maxHeartbeats 400000 in
theorem F7_halves_89_ok (l : Launch)  {Q : Option Value → SQ → Prop} (v1 : Int32) (v3 : Int32) (v4 : Int32) (s0 : Int32) (s1 : Int32) (q : SQ) {res : (Int32 × Int32 × SQ) ⊕ (Int32 × SQ)} (h : F7_halves_89  v1 v3 v4 s0 s1 q = some res) (hk9 : (∀ a19, res = .inl a19 → PF7_halves l Q 24 [(0, .ref 0), (1, .int v1), (2, .int a19.1), (3, .int a19.2.1)] [] a19.2.2) ∧ (∀ b20, res = .inr b20 → Q (some (.int b20.1)) b20.2)) : PF7_halves l Q 89 [(0, .ref 0), (1, .int v1), (3, .int v3), (4, .int v4)] [.int s0, .int s1] q := by
  unfold F7_halves_89 at h
  refine sx_ior dX7_halves_89 ?_
  obtain ⟨x14, ex14, h⟩ := sx_lt h
  refine sx_nmI ex14 ?_
  refine sx_istore_n (ls2 := [(2, .int x14), (0, .ref 0), (1, .int v1), (3, .int v3), (4, .int v4)]) dX7_halves_90 rfl (by decide) rfl ?_
  refine sx_aload_n dX7_halves_91 rfl rfl ?_
  refine sx_getR dX7_halves_92 (hs := shM_0) (k9 := 9) (hf := rfl) cb_X7 ⟨by decide, rfl, gw_808⟩ ?_
  refine sx_iconst (v := (3 : Int32)) dX7_halves_95 (by decide) ?_
  refine sx_iload_n dX7_halves_96 rfl rfl ?_
  refine sx_imul dX7_halves_97 ?_
  refine sx_iconst (v := (2 : Int32)) dX7_halves_98 (by decide) ?_
  refine sx_iadd dX7_halves_99 ?_
  refine sx_iload dX7_halves_100 rfl ?_
  refine sx_if_eq (tgt := 118) dX7_halves_102 (by decide) (fun c9 => ?_) (fun c9 => ?_)
  · replace h := sx_ip h c9
    refine sx_iconst (v := (0 : Int32)) dX7_halves_118 (by decide) ?_
    refine sx_locs [1, 2, 0, 3] rfl ?_
    exact F7_halves_119_ok l  v1 x14 v3 (0 : Int32) (((3 : Int32) * v3) + (2 : Int32)) q h hk9
  · replace h := sx_in h c9
    refine sx_aload_n dX7_halves_105 rfl rfl ?_
    refine sx_getR dX7_halves_106 (hs := shM_0) (k9 := 9) (hf := rfl) cb_X7 ⟨by decide, rfl, gw_808⟩ ?_
    refine sx_iconst (v := (3 : Int32)) dX7_halves_109 (by decide) ?_
    refine sx_iload_n dX7_halves_110 rfl rfl ?_
    refine sx_imul dX7_halves_111 ?_
    refine sx_iconst (v := (2 : Int32)) dX7_halves_112 (by decide) ?_
    refine sx_iadd dX7_halves_113 ?_
    obtain ⟨g9, h⟩ := sx_gd h
    refine sx_iald dX7_halves_114 shM_2 (fun _ _ => rfl) (sx_ix_in g9) ?_
    refine sx_goto (tgt := 119) dX7_halves_115 (by decide) ?_
    refine sx_locs [1, 2, 0, 3] rfl ?_
    exact F7_halves_119_ok l  v1 x14 v3 (gI q 2 (((3 : Int32) * v3) + (2 : Int32)).toNatClampNeg) (((3 : Int32) * v3) + (2 : Int32)) q h hk9
def F7_halves_74  (v1 : Int32) (v2 : Int32) (v3 : Int32) (s0 : Int32) (q : SQ) : Option ((Int32 × Int32 × SQ) ⊕ (Int32 × SQ)) :=
  (if s0 = 0 then F7_halves_89  v1 v3 s0 (0 : Int32) v2 q else F7_halves_89  v1 v3 s0 ((1 : Int32) <<< (v3 &&& 31)) v2 q)
set_option maxHeartbeats 400000 in
theorem F7_halves_74_ok (l : Launch)  {Q : Option Value → SQ → Prop} (v1 : Int32) (v2 : Int32) (v3 : Int32) (s0 : Int32) (q : SQ) {res : (Int32 × Int32 × SQ) ⊕ (Int32 × SQ)} (h : F7_halves_74  v1 v2 v3 s0 q = some res) (hk9 : (∀ a21, res = .inl a21 → PF7_halves l Q 24 [(0, .ref 0), (1, .int v1), (2, .int a21.1), (3, .int a21.2.1)] [] a21.2.2) ∧ (∀ b22, res = .inr b22 → Q (some (.int b22.1)) b22.2)) : PF7_halves l Q 74 [(0, .ref 0), (1, .int v1), (2, .int v2), (3, .int v3)] [.int s0] q := by
  unfold F7_halves_74 at h
  refine sx_istore (ls2 := [(4, .int s0), (0, .ref 0), (1, .int v1), (2, .int v2), (3, .int v3)]) dX7_halves_74 (by decide) rfl ?_
  refine sx_iload_n dX7_halves_76 rfl rfl ?_
  refine sx_iload dX7_halves_77 rfl ?_
  refine sx_if_eq (tgt := 88) dX7_halves_79 (by decide) (fun c9 => ?_) (fun c9 => ?_)
  · replace h := sx_ip h c9
    refine sx_iconst (v := (0 : Int32)) dX7_halves_88 (by decide) ?_
    refine sx_locs [1, 2, 4, 0] rfl ?_
    exact F7_halves_89_ok l  v1 v3 s0 (0 : Int32) v2 q h hk9
  · replace h := sx_in h c9
    refine sx_iconst (v := (1 : Int32)) dX7_halves_82 (by decide) ?_
    refine sx_iload_n dX7_halves_83 rfl rfl ?_
    refine sx_ishl dX7_halves_84 ?_
    refine sx_goto (tgt := 89) dX7_halves_85 (by decide) ?_
    refine sx_locs [1, 2, 4, 0] rfl ?_
    exact F7_halves_89_ok l  v1 v3 s0 ((1 : Int32) <<< (v3 &&& 31)) v2 q h hk9
def F7_halves_24b  (v1 : Int32) (v2 : Int32) (v3 : Int32) (q : SQ) : Option ((Int32 × Int32 × SQ) ⊕ (Int32 × SQ)) :=
  (if gI q 2 40 ≤ v3 then (F7_endOn  v1 q).bind (fun z4 => (F7_halves_137  v2 (0 : Int32) (0 : Int32) z4.2).map .inr) else sx_let (sI q 4 2 (((gI q 4 2) * (1103515245 : Int32)) + (12345 : Int32))) (fun q13 => (if ((gI q13 4 2) >>> ((16 : Int32) &&& 31)) &&& (1 : Int32) = (1 : Int32) then F7_halves_74  v1 v2 v3 (1 : Int32) q13 else F7_halves_74  v1 v2 v3 (0 : Int32) q13)))
set_option maxHeartbeats 400000 in
theorem F7_halves_24b_ok (l : Launch)  {Q : Option Value → SQ → Prop} (v1 : Int32) (v2 : Int32) (v3 : Int32) (q : SQ) {res : (Int32 × Int32 × SQ) ⊕ (Int32 × SQ)} (h : F7_halves_24b  v1 v2 v3 q = some res) (hk9 : (∀ a23, res = .inl a23 → PF7_halves l Q 24 [(0, .ref 0), (1, .int v1), (2, .int a23.1), (3, .int a23.2.1)] [] a23.2.2) ∧ (∀ b24, res = .inr b24 → Q (some (.int b24.1)) b24.2)) : PF7_halves l Q 24 [(0, .ref 0), (1, .int v1), (2, .int v2), (3, .int v3)] [] q := by
  unfold F7_halves_24b at h
  refine sx_iload_n dX7_halves_24 rfl rfl ?_
  refine sx_aload_n dX7_halves_25 rfl rfl ?_
  refine sx_getR dX7_halves_26 (hs := shM_0) (k9 := 9) (hf := rfl) cb_X7 ⟨by decide, rfl, gw_808⟩ ?_
  refine sx_bipush (v := (40 : Int32)) dX7_halves_29 (by decide) ?_
  refine sx_ialdC (j9 := 40) dX7_halves_31 shM_2 (fun _ _ => rfl) (by decide) (by decide) ?_
  refine sx_icmp_ge (tgt := 126) dX7_halves_32 (by decide) (fun c9 => ?_) (fun c9 => ?_)
  · replace h := sx_ip h c9
    refine sx_aload_n dX7_halves_126 rfl rfl ?_
    refine sx_iload_n dX7_halves_127 rfl rfl ?_
    obtain ⟨z4, hz4, h⟩ := sx_bd h
    refine sx_callV (o := 0) (As := [.int v1]) (rest := []) KSM (F7_endOn_ck l  v1 q hz4) mi_X7_endOn gw_1013 rfl ⟨gw_1015, gw_51⟩ shM_0 rfl rfl ⟨Nat.le_of_ble_eq_true rfl, Nat.le_of_ble_eq_true rfl⟩ (Nat.le_of_ble_eq_true rfl) dX7_halves_128 rfl ?_
    refine sx_pop dX7_halves_131 rfl ?_
    refine sx_iconst (v := (0 : Int32)) dX7_halves_132 (by decide) ?_
    refine sx_istore_n (ls2 := [(3, .int (0 : Int32)), (0, .ref 0), (1, .int v1), (2, .int v2)]) dX7_halves_133 rfl (by decide) rfl ?_
    refine sx_iconst (v := (0 : Int32)) dX7_halves_134 (by decide) ?_
    refine sx_istore (ls2 := [(4, .int (0 : Int32)), (3, .int (0 : Int32)), (0, .ref 0), (1, .int v1), (2, .int v2)]) dX7_halves_135 (by decide) rfl ?_
    obtain ⟨t9, h, hr9⟩ := sx_mp h
    have hk9 := hk9.2 _ hr9
    refine sx_locs [2, 4, 1, 0] rfl ?_
    exact F7_halves_137_ok l  v2 (0 : Int32) (0 : Int32) z4.2 h hk9
  · replace h := sx_in h c9
    refine sx_aload_n dX7_halves_35 rfl rfl ?_
    refine sx_getR dX7_halves_36 (hs := shM_0) (k9 := 11) (hf := rfl) cb_X7 ⟨by decide, rfl, gw_810⟩ ?_
    refine sx_iconst (v := (2 : Int32)) dX7_halves_39 (by decide) ?_
    refine sx_aload_n dX7_halves_40 rfl rfl ?_
    refine sx_getR dX7_halves_41 (hs := shM_0) (k9 := 11) (hf := rfl) cb_X7 ⟨by decide, rfl, gw_810⟩ ?_
    refine sx_iconst (v := (2 : Int32)) dX7_halves_44 (by decide) ?_
    refine sx_ialdC (j9 := 2) dX7_halves_45 shM_4 (fun _ _ => rfl) (by decide) (by decide) ?_
    refine sx_ldc (v := (1103515245 : Int32)) dX7_halves_46 gw_1101 ?_
    refine sx_imul dX7_halves_48 ?_
    refine sx_sipush (v := (12345 : Int32)) dX7_halves_49 (by decide) ?_
    refine sx_iadd dX7_halves_52 ?_
    obtain ⟨q13, eq13, h⟩ := sx_lt h
    refine sx_iastC (j9 := 2) dX7_halves_53 shM_4 (fun _ _ => rfl) (by decide) (by decide) ?_
    refine sx_nmQ eq13 ?_
    refine sx_aload_n dX7_halves_54 rfl rfl ?_
    refine sx_getR dX7_halves_55 (hs := shM_0) (k9 := 11) (hf := rfl) cb_X7 ⟨by decide, rfl, gw_810⟩ ?_
    refine sx_iconst (v := (2 : Int32)) dX7_halves_58 (by decide) ?_
    refine sx_ialdC (j9 := 2) dX7_halves_59 shM_4 (fun _ _ => rfl) (by decide) (by decide) ?_
    refine sx_bipush (v := (16 : Int32)) dX7_halves_60 (by decide) ?_
    refine sx_ishr dX7_halves_62 ?_
    refine sx_iconst (v := (1 : Int32)) dX7_halves_63 (by decide) ?_
    refine sx_iand dX7_halves_64 ?_
    refine sx_iconst (v := (1 : Int32)) dX7_halves_65 (by decide) ?_
    refine sx_icmp_ne (tgt := 73) dX7_halves_66 (by decide) (fun c9 => ?_) (fun c9 => ?_)
    · replace h := sx_in h c9
      refine sx_iconst (v := (0 : Int32)) dX7_halves_73 (by decide) ?_
      exact F7_halves_74_ok l  v1 v2 v3 (0 : Int32) q13 h hk9
    · replace h := sx_ip h c9
      refine sx_iconst (v := (1 : Int32)) dX7_halves_69 (by decide) ?_
      refine sx_goto (tgt := 74) dX7_halves_70 (by decide) ?_
      exact F7_halves_74_ok l  v1 v2 v3 (1 : Int32) q13 h hk9
def F7_halves_24  (v1 : Int32) (v2 : Int32) (v3 : Int32) (q : SQ) : Option (Int32 × SQ) := sx_loop (fun s25 => F7_halves_24b  v1 s25.1 s25.2.1 s25.2.2) FU (v2, v3, q)
set_option maxHeartbeats 400000 in
theorem F7_halves_24_ok (l : Launch)  {Q : Option Value → SQ → Prop} (v1 : Int32) (v2 : Int32) (v3 : Int32) (q : SQ) {t : Int32 × SQ} (h : F7_halves_24  v1 v2 v3 q = some t) (hk9 : Q (some (.int t.1)) t.2) : PF7_halves l Q 24 [(0, .ref 0), (1, .int v1), (2, .int v2), (3, .int v3)] [] q := by
  unfold F7_halves_24 at h
  have st : ∀ (s : Int32 × Int32 × SQ) (res : (Int32 × Int32 × SQ) ⊕ (Int32 × SQ)), F7_halves_24b  v1 s.1 s.2.1 s.2.2 = some res → (∀ s2, res = .inl s2 → PF7_halves l Q 24 [(0, .ref 0), (1, .int v1), (2, .int s2.1), (3, .int s2.2.1)] [] s2.2.2) → (∀ t2, res = .inr t2 → Q (some (.int t2.1)) t2.2) → PF7_halves l Q 24 [(0, .ref 0), (1, .int v1), (2, .int s.1), (3, .int s.2.1)] [] s.2.2 :=
    fun s res hb hi ho => F7_halves_24b_ok l  v1 s.1 s.2.1 s.2.2 hb ⟨hi, ho⟩
  have h9 : PF7_halves l Q 24 [(0, .ref 0), (1, .int v1), (2, .int v2), (3, .int v3)] [] q := sx_lp (body := fun s => F7_halves_24b  v1 s.1 s.2.1 s.2.2) (P := fun s => PF7_halves l Q 24 [(0, .ref 0), (1, .int v1), (2, .int s.1), (3, .int s.2.1)] [] s.2.2) (T := fun t => Q (some (.int t.1)) t.2) st FU (v2, v3, q) t h hk9
  exact h9
def F7_halves  (v1 : Int32) (q : SQ) : Option (Int32 × SQ) :=
  sx_let (sI q 0 0 (0 : Int32)) (fun q1 => (F7_isDay  v1 q1).bind (fun z2 => (if z2.1 = 0 then some ((-1000000 : Int32), z2.2) else (F7_aside  (1 : Int32) z2.2).bind (fun z3 => F7_halves_24  v1 (0 : Int32) (0 : Int32) z3.2))))
set_option maxHeartbeats 400000 in
theorem F7_halves_ok (l : Launch)  {Q : Option Value → SQ → Prop} (v1 : Int32) (q : SQ) {res : Int32 × SQ} (h : F7_halves  v1 q = some res) (hk9 : Q (some (.int res.1)) res.2) : PF7_halves l Q 0 [(0, .ref 0), (1, .int v1)] [] q := by
  unfold F7_halves at h
  refine sx_aload_n dX7_halves_0 rfl rfl ?_
  refine sx_iconst (v := (0 : Int32)) dX7_halves_1 (by decide) ?_
  obtain ⟨q1, eq1, h⟩ := sx_lt h
  refine sx_putI dX7_halves_2 (hs := shM_0) (k9 := 0) (hf := rfl) cb_X7 ⟨by decide, rfl, gw_799⟩ rfl (by decide) ?_
  refine sx_nmQ eq1 ?_
  refine sx_iload_n dX7_halves_5 rfl rfl ?_
  obtain ⟨z2, hz2, h⟩ := sx_bd h
  refine sx_callS (As := [.int v1]) (rest := []) KSM (F7_isDay_ck l  v1 q1 hz2) mi_X7_isDay gw_943 rfl gw_944 ⟨Nat.le_of_ble_eq_true rfl, Nat.le_of_ble_eq_true rfl⟩ (Nat.le_of_ble_eq_true rfl) dX7_halves_6 rfl ?_
  refine sx_if_ne (tgt := 15) dX7_halves_9 (by decide) (fun c9 => ?_) (fun c9 => ?_)
  · replace h := sx_in h c9
    refine sx_aload_n dX7_halves_15 rfl rfl ?_
    refine sx_iconst (v := (1 : Int32)) dX7_halves_16 (by decide) ?_
    obtain ⟨z3, hz3, h⟩ := sx_bd h
    refine sx_callV (o := 0) (As := [.int (1 : Int32)]) (rest := []) KSM (F7_aside_ck l  (1 : Int32) z2.2 hz3) mi_X7_aside gw_1021 rfl ⟨gw_1023, gw_52⟩ shM_0 rfl rfl ⟨Nat.le_of_ble_eq_true rfl, Nat.le_of_ble_eq_true rfl⟩ (Nat.le_of_ble_eq_true rfl) dX7_halves_17 rfl ?_
    refine sx_iconst (v := (0 : Int32)) dX7_halves_20 (by decide) ?_
    refine sx_istore_n (ls2 := [(2, .int (0 : Int32)), (0, .ref 0), (1, .int v1)]) dX7_halves_21 rfl (by decide) rfl ?_
    refine sx_iconst (v := (0 : Int32)) dX7_halves_22 (by decide) ?_
    refine sx_istore_n (ls2 := [(3, .int (0 : Int32)), (2, .int (0 : Int32)), (0, .ref 0), (1, .int v1)]) dX7_halves_23 rfl (by decide) rfl ?_
    refine sx_locs [2, 3, 1, 0] rfl ?_
    exact F7_halves_24_ok l  v1 (0 : Int32) (0 : Int32) z3.2 h hk9
  · replace h := sx_ip h c9
    refine sx_ldc (v := (-1000000 : Int32)) dX7_halves_12 gw_1085 ?_
    obtain rfl := Option.some.inj h
    exact sx_iret dX7_halves_14 rfl hk9
theorem F7_halves_ck (l : Launch)  (v1 : Int32) (q : SQ) {r : Int32 × SQ} (h : F7_halves  v1 q = some r) : CK shM vwCl KM tfM l yX7_halves cX7_halves 5 ((some .int)) 6 151 [.ref 0, .int v1] q (some (.int r.1)) r.2 :=
  CK.of mi_X7_halves (Nat.le_of_ble_eq_true rfl) (F7_halves_ok l  v1 q h ⟨rfl, rfl⟩)
theorem mi_X7_lot : sx_MI yX7_lot cX7_lot 3 ((some .int)) 1 := ⟨by decide, ⟨by decide, by decide, by decide +kernel⟩, gw_1105, gw_68⟩
abbrev PF7_lot (l : Launch) (Q : Option Value → SQ → Prop) : Nat → List (Nat × Value) → List Value → SQ → Prop := XX shM vwCl KM tfM l RX7 cX7_lot 3 ((some .int)) { frames := 0, cells := 0, slots := 0, locals := 0 } Q
def F7_lot  (v1 : Int32) (q : SQ) : Option (Int32 × SQ) :=
  sx_let (sI q 0 0 (0 : Int32)) (fun q1 => sx_let (gI q1 4 2) (fun x2 => sx_let (sI q1 4 2 v1) (fun q3 => some (x2, q3))))
set_option maxHeartbeats 400000 in
theorem F7_lot_ok (l : Launch)  {Q : Option Value → SQ → Prop} (v1 : Int32) (q : SQ) {res : Int32 × SQ} (h : F7_lot  v1 q = some res) (hk9 : Q (some (.int res.1)) res.2) : PF7_lot l Q 0 [(0, .ref 0), (1, .int v1)] [] q := by
  unfold F7_lot at h
  refine sx_aload_n dX7_lot_0 rfl rfl ?_
  refine sx_iconst (v := (0 : Int32)) dX7_lot_1 (by decide) ?_
  obtain ⟨q1, eq1, h⟩ := sx_lt h
  refine sx_putI dX7_lot_2 (hs := shM_0) (k9 := 0) (hf := rfl) cb_X7 ⟨by decide, rfl, gw_799⟩ rfl (by decide) ?_
  refine sx_nmQ eq1 ?_
  refine sx_aload_n dX7_lot_5 rfl rfl ?_
  refine sx_getR dX7_lot_6 (hs := shM_0) (k9 := 11) (hf := rfl) cb_X7 ⟨by decide, rfl, gw_810⟩ ?_
  refine sx_iconst (v := (2 : Int32)) dX7_lot_9 (by decide) ?_
  refine sx_ialdC (j9 := 2) dX7_lot_10 shM_4 (fun _ _ => rfl) (by decide) (by decide) ?_
  obtain ⟨x2, ex2, h⟩ := sx_lt h
  refine sx_nmI ex2 ?_
  refine sx_istore_n (ls2 := [(2, .int x2), (0, .ref 0), (1, .int v1)]) dX7_lot_11 rfl (by decide) rfl ?_
  refine sx_aload_n dX7_lot_12 rfl rfl ?_
  refine sx_getR dX7_lot_13 (hs := shM_0) (k9 := 11) (hf := rfl) cb_X7 ⟨by decide, rfl, gw_810⟩ ?_
  refine sx_iconst (v := (2 : Int32)) dX7_lot_16 (by decide) ?_
  refine sx_iload_n dX7_lot_17 rfl rfl ?_
  obtain ⟨q3, eq3, h⟩ := sx_lt h
  refine sx_iastC (j9 := 2) dX7_lot_18 shM_4 (fun _ _ => rfl) (by decide) (by decide) ?_
  refine sx_nmQ eq3 ?_
  refine sx_iload_n dX7_lot_19 rfl rfl ?_
  obtain rfl := Option.some.inj h
  exact sx_iret dX7_lot_20 rfl hk9
theorem F7_lot_ck (l : Launch)  (v1 : Int32) (q : SQ) {r : Int32 × SQ} (h : F7_lot  v1 q = some r) : CK shM vwCl KM tfM l yX7_lot cX7_lot 3 ((some .int)) 0 0 [.ref 0, .int v1] q (some (.int r.1)) r.2 :=
  CK.of mi_X7_lot (Nat.le_of_ble_eq_true rfl) (F7_lot_ok l  v1 q h ⟨rfl, rfl⟩)
