theorem mi_X7_stays : sx_MI yX7_stays cX7_stays 7 ((some .int)) 2 := ⟨by decide, ⟨by decide, by decide, by decide +kernel⟩, gw_1040, gw_68⟩
abbrev PF7_stays (l : Launch) (Q : Option Value → SQ → Prop) : Nat → List (Nat × Value) → List Value → SQ → Prop := XX shM vwCl KM tfM l RX7 cX7_stays 7 ((some .int)) { frames := 4, cells := 0, slots := 0, locals := 99 } Q
def F7_stays_21   (q : SQ) : Option (Int32 × SQ) :=
  some ((-1 : Int32), q)
set_option maxHeartbeats 400000 in
theorem F7_stays_21_ok (l : Launch)  {Q : Option Value → SQ → Prop}  (q : SQ) {res : Int32 × SQ} (h : F7_stays_21   q = some res) (hk9 : Q (some (.int res.1)) res.2) : PF7_stays l Q 21 [] [] q := by
  unfold F7_stays_21 at h
  refine sx_iconst (v := (-1 : Int32)) dX7_stays_21 (by decide) ?_
  obtain rfl := Option.some.inj h
  exact sx_iret dX7_stays_22 rfl hk9
def F7_stays_112  (v3 : Int32) (v4 : Int32) (v5 : Int32) (q : SQ) : Option (Int32 × SQ) :=
  (if sx_ix v3 84 = true then sx_let (sI q 2 v3.toNatClampNeg v4) (fun q7 => some (v5, q7)) else none)
set_option maxHeartbeats 400000 in
theorem F7_stays_112_ok (l : Launch)  {Q : Option Value → SQ → Prop} (v3 : Int32) (v4 : Int32) (v5 : Int32) (q : SQ) {res : Int32 × SQ} (h : F7_stays_112  v3 v4 v5 q = some res) (hk9 : Q (some (.int res.1)) res.2) : PF7_stays l Q 112 [(0, .ref 0), (3, .int v3), (4, .int v4), (5, .int v5)] [] q := by
  unfold F7_stays_112 at h
  refine sx_aload_n dX7_stays_112 rfl rfl ?_
  refine sx_getR dX7_stays_113 (hs := shM_0) (k9 := 9) (hf := rfl) cb_X7 ⟨by decide, rfl, gw_808⟩ ?_
  refine sx_iload_n dX7_stays_116 rfl rfl ?_
  refine sx_iload dX7_stays_117 rfl ?_
  obtain ⟨g9, h⟩ := sx_gd h
  obtain ⟨q7, eq7, h⟩ := sx_lt h
  refine sx_iast dX7_stays_119 shM_2 (fun _ _ => rfl) (sx_ix_in g9) ?_
  refine sx_nmQ eq7 ?_
  refine sx_iload dX7_stays_120 rfl ?_
  obtain rfl := Option.some.inj h
  exact sx_iret dX7_stays_122 rfl hk9
def F7_stays_104  (v1 : Int32) (v2 : Int32) (v3 : Int32) (v4 : Int32) (v6 : Int32) (s0 : Int32) (q : SQ) : Option ((Int32 × Int32 × SQ) ⊕ (Int32 × SQ)) :=
  sx_let (v6 + (1 : Int32)) (fun x10 => some (.inl (s0, x10, q)))
set_option maxHeartbeats 400000 in
theorem F7_stays_104_ok (l : Launch)  {Q : Option Value → SQ → Prop} (v1 : Int32) (v2 : Int32) (v3 : Int32) (v4 : Int32) (v6 : Int32) (s0 : Int32) (q : SQ) {res : (Int32 × Int32 × SQ) ⊕ (Int32 × SQ)} (h : F7_stays_104  v1 v2 v3 v4 v6 s0 q = some res) (hk9 : (∀ a11, res = .inl a11 → PF7_stays l Q 55 [(0, .ref 0), (1, .int v1), (2, .int v2), (3, .int v3), (4, .int v4), (5, .int a11.1), (6, .int a11.2.1)] [] a11.2.2) ∧ (∀ b12, res = .inr b12 → Q (some (.int b12.1)) b12.2)) : PF7_stays l Q 104 [(0, .ref 0), (1, .int v1), (2, .int v2), (3, .int v3), (4, .int v4), (6, .int v6)] [.int s0] q := by
  unfold F7_stays_104 at h
  refine sx_istore (ls2 := [(5, .int s0), (0, .ref 0), (1, .int v1), (2, .int v2), (3, .int v3), (4, .int v4), (6, .int v6)]) dX7_stays_104 (by decide) rfl ?_
  obtain ⟨x10, ex10, h⟩ := sx_lt h
  refine sx_iinc (k9 := 6) (v := x10) (ls2 := [(6, .int x10), (5, .int s0), (0, .ref 0), (1, .int v1), (2, .int v2), (3, .int v3), (4, .int v4)]) dX7_stays_106 rfl (by rw [ex10, sx_ofI1]) (by decide) rfl ?_
  refine sx_goto (tgt := 55) dX7_stays_109 (by decide) ?_
  refine sx_locs [2, 3, 4, 5, 6, 1, 0] rfl ?_
  exact hk9.1 (s0, x10, q) (Option.some.inj h).symm
def F7_stays_55b  (v1 : Int32) (v2 : Int32) (v3 : Int32) (v4 : Int32) (v5 : Int32) (v6 : Int32) (q : SQ) : Option ((Int32 × Int32 × SQ) ⊕ (Int32 × SQ)) :=
  (if (10 : Int32) ≤ v6 then (F7_stays_112  v3 v4 v5 q).map .inr else (if v5 = (-9 : Int32) then (if sx_ix v3 84 = true then sx_let (sI q 2 v3.toNatClampNeg v6) (fun q8 => (F7_choiceOf 7 v1 (gI q8 2 36) q8).bind (fun z9 => (if z9.1 = v2 then F7_stays_104  v1 v2 v3 v4 v6 v6 z9.2 else F7_stays_104  v1 v2 v3 v4 v6 (-9 : Int32) z9.2))) else none) else (F7_stays_112  v3 v4 v5 q).map .inr))
set_option maxHeartbeats 400000 in
theorem F7_stays_55b_ok (l : Launch)  {Q : Option Value → SQ → Prop} (v1 : Int32) (v2 : Int32) (v3 : Int32) (v4 : Int32) (v5 : Int32) (v6 : Int32) (q : SQ) {res : (Int32 × Int32 × SQ) ⊕ (Int32 × SQ)} (h : F7_stays_55b  v1 v2 v3 v4 v5 v6 q = some res) (hk9 : (∀ a13, res = .inl a13 → PF7_stays l Q 55 [(0, .ref 0), (1, .int v1), (2, .int v2), (3, .int v3), (4, .int v4), (5, .int a13.1), (6, .int a13.2.1)] [] a13.2.2) ∧ (∀ b14, res = .inr b14 → Q (some (.int b14.1)) b14.2)) : PF7_stays l Q 55 [(0, .ref 0), (1, .int v1), (2, .int v2), (3, .int v3), (4, .int v4), (5, .int v5), (6, .int v6)] [] q := by
  unfold F7_stays_55b at h
  refine sx_iload dX7_stays_55 rfl ?_
  refine sx_bipush (v := (10 : Int32)) dX7_stays_57 (by decide) ?_
  refine sx_icmp_ge (tgt := 112) dX7_stays_59 (by decide) (fun c9 => ?_) (fun c9 => ?_)
  · replace h := sx_ip h c9
    obtain ⟨t9, h, hr9⟩ := sx_mp h
    have hk9 := hk9.2 _ hr9
    refine sx_locs [0, 3, 4, 5] rfl ?_
    exact F7_stays_112_ok l  v3 v4 v5 q h hk9
  · replace h := sx_in h c9
    refine sx_iload dX7_stays_62 rfl ?_
    refine sx_bipush (v := (-9 : Int32)) dX7_stays_64 (by decide) ?_
    refine sx_icmp_ne (tgt := 112) dX7_stays_66 (by decide) (fun c9 => ?_) (fun c9 => ?_)
    · replace h := sx_in h c9
      obtain ⟨t9, h, hr9⟩ := sx_mp h
      have hk9 := hk9.2 _ hr9
      refine sx_locs [0, 3, 4, 5] rfl ?_
      exact F7_stays_112_ok l  v3 v4 v5 q h hk9
    · replace h := sx_ip h c9
      refine sx_aload_n dX7_stays_69 rfl rfl ?_
      refine sx_getR dX7_stays_70 (hs := shM_0) (k9 := 9) (hf := rfl) cb_X7 ⟨by decide, rfl, gw_808⟩ ?_
      refine sx_iload_n dX7_stays_73 rfl rfl ?_
      refine sx_iload dX7_stays_74 rfl ?_
      obtain ⟨g9, h⟩ := sx_gd h
      obtain ⟨q8, eq8, h⟩ := sx_lt h
      refine sx_iast dX7_stays_76 shM_2 (fun _ _ => rfl) (sx_ix_in g9) ?_
      refine sx_nmQ eq8 ?_
      refine sx_aload_n dX7_stays_77 rfl rfl ?_
      refine sx_aload_n dX7_stays_78 rfl rfl ?_
      refine sx_getR dX7_stays_79 (hs := shM_0) (k9 := 14) (hf := rfl) cb_X7 ⟨by decide, rfl, gw_813⟩ ?_
      refine sx_iload_n dX7_stays_82 rfl rfl ?_
      refine sx_aload_n dX7_stays_83 rfl rfl ?_
      refine sx_getR dX7_stays_84 (hs := shM_0) (k9 := 9) (hf := rfl) cb_X7 ⟨by decide, rfl, gw_808⟩ ?_
      refine sx_bipush (v := (36 : Int32)) dX7_stays_87 (by decide) ?_
      refine sx_ialdC (j9 := 36) dX7_stays_89 shM_2 (fun _ _ => rfl) (by decide) (by decide) ?_
      obtain ⟨z9, hz9, h⟩ := sx_bd h
      refine sx_callV (o := 0) (As := [.ref 7, .int v1, .int (gI q8 2 36)]) (rest := []) KSM (F7_choiceOf_ck l 7 shM_7 v1 (gI q8 2 36) q8 hz9) mi_X7_choiceOf gw_974 rfl ⟨gw_976, gw_47⟩ shM_0 rfl rfl ⟨Nat.le_of_ble_eq_true rfl, Nat.le_of_ble_eq_true rfl⟩ (Nat.le_of_ble_eq_true rfl) dX7_stays_90 rfl ?_
      refine sx_iload_n dX7_stays_93 rfl rfl ?_
      refine sx_icmp_ne (tgt := 102) dX7_stays_94 (by decide) (fun c9 => ?_) (fun c9 => ?_)
      · replace h := sx_in h c9
        refine sx_bipush (v := (-9 : Int32)) dX7_stays_102 (by decide) ?_
        refine sx_locs [0, 1, 2, 3, 4, 6] rfl ?_
        exact F7_stays_104_ok l  v1 v2 v3 v4 v6 (-9 : Int32) z9.2 h hk9
      · replace h := sx_ip h c9
        refine sx_iload dX7_stays_97 rfl ?_
        refine sx_goto (tgt := 104) dX7_stays_99 (by decide) ?_
        refine sx_locs [0, 1, 2, 3, 4, 6] rfl ?_
        exact F7_stays_104_ok l  v1 v2 v3 v4 v6 v6 z9.2 h hk9
def F7_stays_55  (v1 : Int32) (v2 : Int32) (v3 : Int32) (v4 : Int32) (v5 : Int32) (v6 : Int32) (q : SQ) : Option (Int32 × SQ) := sx_loop (fun s15 => F7_stays_55b  v1 v2 v3 v4 s15.1 s15.2.1 s15.2.2) FU (v5, v6, q)
set_option maxHeartbeats 400000 in
theorem F7_stays_55_ok (l : Launch)  {Q : Option Value → SQ → Prop} (v1 : Int32) (v2 : Int32) (v3 : Int32) (v4 : Int32) (v5 : Int32) (v6 : Int32) (q : SQ) {t : Int32 × SQ} (h : F7_stays_55  v1 v2 v3 v4 v5 v6 q = some t) (hk9 : Q (some (.int t.1)) t.2) : PF7_stays l Q 55 [(0, .ref 0), (1, .int v1), (2, .int v2), (3, .int v3), (4, .int v4), (5, .int v5), (6, .int v6)] [] q := by
  unfold F7_stays_55 at h
  have st : ∀ (s : Int32 × Int32 × SQ) (res : (Int32 × Int32 × SQ) ⊕ (Int32 × SQ)), F7_stays_55b  v1 v2 v3 v4 s.1 s.2.1 s.2.2 = some res → (∀ s2, res = .inl s2 → PF7_stays l Q 55 [(0, .ref 0), (1, .int v1), (2, .int v2), (3, .int v3), (4, .int v4), (5, .int s2.1), (6, .int s2.2.1)] [] s2.2.2) → (∀ t2, res = .inr t2 → Q (some (.int t2.1)) t2.2) → PF7_stays l Q 55 [(0, .ref 0), (1, .int v1), (2, .int v2), (3, .int v3), (4, .int v4), (5, .int s.1), (6, .int s.2.1)] [] s.2.2 :=
    fun s res hb hi ho => F7_stays_55b_ok l  v1 v2 v3 v4 s.1 s.2.1 s.2.2 hb ⟨hi, ho⟩
  have h9 : PF7_stays l Q 55 [(0, .ref 0), (1, .int v1), (2, .int v2), (3, .int v3), (4, .int v4), (5, .int v5), (6, .int v6)] [] q := sx_lp (body := fun s => F7_stays_55b  v1 v2 v3 v4 s.1 s.2.1 s.2.2) (P := fun s => PF7_stays l Q 55 [(0, .ref 0), (1, .int v1), (2, .int v2), (3, .int v3), (4, .int v4), (5, .int s.1), (6, .int s.2.1)] [] s.2.2) (T := fun t => Q (some (.int t.1)) t.2) st FU (v5, v6, q) t h hk9
  exact h9
def F7_stays  (v1 : Int32) (v2 : Int32) (q : SQ) : Option (Int32 × SQ) :=
  sx_let (sI q 0 0 (0 : Int32)) (fun q1 => (F7_isChild  v1 q1).bind (fun z2 => (if z2.1 = 0 then F7_stays_21   z2.2 else (F7_isSort  v2 z2.2).bind (fun z3 => (if z3.1 = 0 then F7_stays_21   z3.2 else (F7_begins 7  z3.2).bind (fun z4 => sx_let (((24 : Int32) + ((3 : Int32) * v2)) + (2 : Int32)) (fun x5 => (if sx_ix x5 84 = true then sx_let (gI z4.2 2 x5.toNatClampNeg) (fun x6 => F7_stays_55  v1 v2 x5 x6 (-9 : Int32) (0 : Int32) z4.2) else none))))))))
set_option maxHeartbeats 400000 in
theorem F7_stays_ok (l : Launch)  {Q : Option Value → SQ → Prop} (v1 : Int32) (v2 : Int32) (q : SQ) {res : Int32 × SQ} (h : F7_stays  v1 v2 q = some res) (hk9 : Q (some (.int res.1)) res.2) : PF7_stays l Q 0 [(0, .ref 0), (1, .int v1), (2, .int v2)] [] q := by
  unfold F7_stays at h
  refine sx_aload_n dX7_stays_0 rfl rfl ?_
  refine sx_iconst (v := (0 : Int32)) dX7_stays_1 (by decide) ?_
  obtain ⟨q1, eq1, h⟩ := sx_lt h
  refine sx_putI dX7_stays_2 (hs := shM_0) (k9 := 0) (hf := rfl) cb_X7 ⟨by decide, rfl, gw_799⟩ rfl (by decide) ?_
  refine sx_nmQ eq1 ?_
  refine sx_aload_n dX7_stays_5 rfl rfl ?_
  refine sx_iload_n dX7_stays_6 rfl rfl ?_
  obtain ⟨z2, hz2, h⟩ := sx_bd h
  refine sx_callV (o := 0) (As := [.int v1]) (rest := []) KSM (F7_isChild_ck l  v1 q1 hz2) mi_X7_isChild gw_919 rfl ⟨gw_921, gw_40⟩ shM_0 rfl rfl ⟨Nat.le_of_ble_eq_true rfl, Nat.le_of_ble_eq_true rfl⟩ (Nat.le_of_ble_eq_true rfl) dX7_stays_7 rfl ?_
  refine sx_if_eq (tgt := 21) dX7_stays_10 (by decide) (fun c9 => ?_) (fun c9 => ?_)
  · replace h := sx_ip h c9
    refine sx_locs [] rfl ?_
    exact F7_stays_21_ok l   z2.2 h hk9
  · replace h := sx_in h c9
    refine sx_aload_n dX7_stays_13 rfl rfl ?_
    refine sx_iload_n dX7_stays_14 rfl rfl ?_
    obtain ⟨z3, hz3, h⟩ := sx_bd h
    refine sx_callV (o := 0) (As := [.int v2]) (rest := []) KSM (F7_isSort_ck l  v2 z2.2 hz3) mi_X7_isSort gw_927 rfl ⟨gw_929, gw_41⟩ shM_0 rfl rfl ⟨Nat.le_of_ble_eq_true rfl, Nat.le_of_ble_eq_true rfl⟩ (Nat.le_of_ble_eq_true rfl) dX7_stays_15 rfl ?_
    refine sx_if_ne (tgt := 23) dX7_stays_18 (by decide) (fun c9 => ?_) (fun c9 => ?_)
    · replace h := sx_in h c9
      refine sx_aload_n dX7_stays_23 rfl rfl ?_
      refine sx_aload_n dX7_stays_24 rfl rfl ?_
      refine sx_getR dX7_stays_25 (hs := shM_0) (k9 := 14) (hf := rfl) cb_X7 ⟨by decide, rfl, gw_813⟩ ?_
      obtain ⟨z4, hz4, h⟩ := sx_bd h
      refine sx_callV (o := 0) (As := [.ref 7]) (rest := []) KSM (F7_begins_ck l 7 shM_7  z3.2 hz4) mi_X7_begins gw_795 rfl ⟨gw_797, gw_32⟩ shM_0 rfl rfl ⟨Nat.le_of_ble_eq_true rfl, Nat.le_of_ble_eq_true rfl⟩ (Nat.le_of_ble_eq_true rfl) dX7_stays_28 rfl ?_
      refine sx_bipush (v := (24 : Int32)) dX7_stays_31 (by decide) ?_
      refine sx_iconst (v := (3 : Int32)) dX7_stays_33 (by decide) ?_
      refine sx_iload_n dX7_stays_34 rfl rfl ?_
      refine sx_imul dX7_stays_35 ?_
      refine sx_iadd dX7_stays_36 ?_
      refine sx_iconst (v := (2 : Int32)) dX7_stays_37 (by decide) ?_
      refine sx_iadd dX7_stays_38 ?_
      obtain ⟨x5, ex5, h⟩ := sx_lt h
      refine sx_nmI ex5 ?_
      refine sx_istore_n (ls2 := [(3, .int x5), (0, .ref 0), (1, .int v1), (2, .int v2)]) dX7_stays_39 rfl (by decide) rfl ?_
      refine sx_aload_n dX7_stays_40 rfl rfl ?_
      refine sx_getR dX7_stays_41 (hs := shM_0) (k9 := 9) (hf := rfl) cb_X7 ⟨by decide, rfl, gw_808⟩ ?_
      refine sx_iload_n dX7_stays_44 rfl rfl ?_
      obtain ⟨g9, h⟩ := sx_gd h
      refine sx_iald dX7_stays_45 shM_2 (fun _ _ => rfl) (sx_ix_in g9) ?_
      obtain ⟨x6, ex6, h⟩ := sx_lt h
      refine sx_nmI ex6 ?_
      refine sx_istore (ls2 := [(4, .int x6), (3, .int x5), (0, .ref 0), (1, .int v1), (2, .int v2)]) dX7_stays_46 (by decide) rfl ?_
      refine sx_bipush (v := (-9 : Int32)) dX7_stays_48 (by decide) ?_
      refine sx_istore (ls2 := [(5, .int (-9 : Int32)), (4, .int x6), (3, .int x5), (0, .ref 0), (1, .int v1), (2, .int v2)]) dX7_stays_50 (by decide) rfl ?_
      refine sx_iconst (v := (0 : Int32)) dX7_stays_52 (by decide) ?_
      refine sx_istore (ls2 := [(6, .int (0 : Int32)), (5, .int (-9 : Int32)), (4, .int x6), (3, .int x5), (0, .ref 0), (1, .int v1), (2, .int v2)]) dX7_stays_53 (by decide) rfl ?_
      refine sx_locs [4, 5, 6, 3, 2, 1, 0] rfl ?_
      exact F7_stays_55_ok l  v1 v2 x5 x6 (-9 : Int32) (0 : Int32) z4.2 h hk9
    · replace h := sx_ip h c9
      refine sx_locs [] rfl ?_
      exact F7_stays_21_ok l   z3.2 h hk9
theorem F7_stays_ck (l : Launch)  (v1 : Int32) (v2 : Int32) (q : SQ) {r : Int32 × SQ} (h : F7_stays  v1 v2 q = some r) : CK shM vwCl KM tfM l yX7_stays cX7_stays 7 ((some .int)) 4 99 [.ref 0, .int v1, .int v2] q (some (.int r.1)) r.2 :=
  CK.of mi_X7_stays (Nat.le_of_ble_eq_true rfl) (F7_stays_ok l  v1 v2 q h ⟨rfl, rfl⟩)
theorem mi_X7_jarSort : sx_MI yX7_jarSort cX7_jarSort 3 ((some .int)) 1 := ⟨by decide, ⟨by decide, by decide, by decide +kernel⟩, gw_1052, gw_68⟩
abbrev PF7_jarSort (l : Launch) (Q : Option Value → SQ → Prop) : Nat → List (Nat × Value) → List Value → SQ → Prop := XX shM vwCl KM tfM l RX7 cX7_jarSort 3 ((some .int)) { frames := 4, cells := 0, slots := 0, locals := 99 } Q
def F7_jarSort  (v1 : Int32) (q : SQ) : Option (Int32 × SQ) :=
  sx_let (sI q 0 16 (1 : Int32)) (fun q1 => (F7_choiceOf 4 v1 (gI q1 4 0) q1).bind (fun z2 => sx_let z2.1 (fun x3 => sx_let (sI z2.2 0 16 (0 : Int32)) (fun q4 => (if x3 = (-9 : Int32) then some ((0 : Int32), q4) else some (x3, q4))))))
set_option maxHeartbeats 400000 in
theorem F7_jarSort_ok (l : Launch)  {Q : Option Value → SQ → Prop} (v1 : Int32) (q : SQ) {res : Int32 × SQ} (h : F7_jarSort  v1 q = some res) (hk9 : Q (some (.int res.1)) res.2) : PF7_jarSort l Q 0 [(0, .ref 0), (1, .int v1)] [] q := by
  unfold F7_jarSort at h
  refine sx_aload_n dX7_jarSort_0 rfl rfl ?_
  refine sx_iconst (v := (1 : Int32)) dX7_jarSort_1 (by decide) ?_
  obtain ⟨q1, eq1, h⟩ := sx_lt h
  refine sx_putZ dX7_jarSort_2 (hs := shM_0) (k9 := 16) (hf := rfl) cb_X7 ⟨by decide, rfl, gw_815⟩ rfl (by decide) (by decide) ?_
  refine sx_nmQ eq1 ?_
  refine sx_aload_n dX7_jarSort_5 rfl rfl ?_
  refine sx_aload_n dX7_jarSort_6 rfl rfl ?_
  refine sx_getR dX7_jarSort_7 (hs := shM_0) (k9 := 11) (hf := rfl) cb_X7 ⟨by decide, rfl, gw_810⟩ ?_
  refine sx_iload_n dX7_jarSort_10 rfl rfl ?_
  refine sx_aload_n dX7_jarSort_11 rfl rfl ?_
  refine sx_getR dX7_jarSort_12 (hs := shM_0) (k9 := 11) (hf := rfl) cb_X7 ⟨by decide, rfl, gw_810⟩ ?_
  refine sx_iconst (v := (0 : Int32)) dX7_jarSort_15 (by decide) ?_
  refine sx_ialdC (j9 := 0) dX7_jarSort_16 shM_4 (fun _ _ => rfl) (by decide) (by decide) ?_
  obtain ⟨z2, hz2, h⟩ := sx_bd h
  refine sx_callV (o := 0) (As := [.ref 4, .int v1, .int (gI q1 4 0)]) (rest := []) KSM (F7_choiceOf_ck l 4 shM_4 v1 (gI q1 4 0) q1 hz2) mi_X7_choiceOf gw_974 rfl ⟨gw_976, gw_47⟩ shM_0 rfl rfl ⟨Nat.le_of_ble_eq_true rfl, Nat.le_of_ble_eq_true rfl⟩ (Nat.le_of_ble_eq_true rfl) dX7_jarSort_17 rfl ?_
  obtain ⟨x3, ex3, h⟩ := sx_lt h
  refine sx_nmI ex3 ?_
  refine sx_istore_n (ls2 := [(2, .int x3), (0, .ref 0), (1, .int v1)]) dX7_jarSort_20 rfl (by decide) rfl ?_
  refine sx_aload_n dX7_jarSort_21 rfl rfl ?_
  refine sx_iconst (v := (0 : Int32)) dX7_jarSort_22 (by decide) ?_
  obtain ⟨q4, eq4, h⟩ := sx_lt h
  refine sx_putZ dX7_jarSort_23 (hs := shM_0) (k9 := 16) (hf := rfl) cb_X7 ⟨by decide, rfl, gw_815⟩ rfl (by decide) (by decide) ?_
  refine sx_nmQ eq4 ?_
  refine sx_iload_n dX7_jarSort_26 rfl rfl ?_
  refine sx_bipush (v := (-9 : Int32)) dX7_jarSort_27 (by decide) ?_
  refine sx_icmp_ne (tgt := 36) dX7_jarSort_29 (by decide) (fun c9 => ?_) (fun c9 => ?_)
  · replace h := sx_in h c9
    refine sx_iload_n dX7_jarSort_36 rfl rfl ?_
    obtain rfl := Option.some.inj h
    exact sx_iret dX7_jarSort_37 rfl hk9
  · replace h := sx_ip h c9
    refine sx_iconst (v := (0 : Int32)) dX7_jarSort_32 (by decide) ?_
    refine sx_goto (tgt := 37) dX7_jarSort_33 (by decide) ?_
    obtain rfl := Option.some.inj h
    exact sx_iret dX7_jarSort_37 rfl hk9
theorem F7_jarSort_ck (l : Launch)  (v1 : Int32) (q : SQ) {r : Int32 × SQ} (h : F7_jarSort  v1 q = some r) : CK shM vwCl KM tfM l yX7_jarSort cX7_jarSort 3 ((some .int)) 4 99 [.ref 0, .int v1] q (some (.int r.1)) r.2 :=
  CK.of mi_X7_jarSort (Nat.le_of_ble_eq_true rfl) (F7_jarSort_ok l  v1 q h ⟨rfl, rfl⟩)
theorem mi_X7_jarPages : sx_MI yX7_jarPages cX7_jarPages 4 ((some .int)) 1 := ⟨by decide, ⟨by decide, by decide, by decide +kernel⟩, gw_1056, gw_68⟩
abbrev PF7_jarPages (l : Launch) (Q : Option Value → SQ → Prop) : Nat → List (Nat × Value) → List Value → SQ → Prop := XX shM vwCl KM tfM l RX7 cX7_jarPages 4 ((some .int)) { frames := 5, cells := 0, slots := 0, locals := 121 } Q
def F7_jarPages_39  (v1 : Int32) (v3 : Int32) (s0 : Int32) (s1 : Int32) (q : SQ) : Option ((Int32 × Int32 × SQ) ⊕ (Int32 × SQ)) :=
  sx_let (s1 + s0) (fun x1 => sx_let (v3 + (1 : Int32)) (fun x2 => some (.inl (x1, x2, q))))
set_option maxHeartbeats 400000 in
theorem F7_jarPages_39_ok (l : Launch)  {Q : Option Value → SQ → Prop} (v1 : Int32) (v3 : Int32) (s0 : Int32) (s1 : Int32) (q : SQ) {res : (Int32 × Int32 × SQ) ⊕ (Int32 × SQ)} (h : F7_jarPages_39  v1 v3 s0 s1 q = some res) (hk9 : (∀ a3, res = .inl a3 → PF7_jarPages l Q 4 [(0, .ref 0), (1, .int v1), (2, .int a3.1), (3, .int a3.2.1)] [] a3.2.2) ∧ (∀ b4, res = .inr b4 → Q (some (.int b4.1)) b4.2)) : PF7_jarPages l Q 39 [(0, .ref 0), (1, .int v1), (3, .int v3)] [.int s0, .int s1] q := by
  unfold F7_jarPages_39 at h
  refine sx_iadd dX7_jarPages_39 ?_
  obtain ⟨x1, ex1, h⟩ := sx_lt h
  refine sx_nmI ex1 ?_
  refine sx_istore_n (ls2 := [(2, .int x1), (0, .ref 0), (1, .int v1), (3, .int v3)]) dX7_jarPages_40 rfl (by decide) rfl ?_
  obtain ⟨x2, ex2, h⟩ := sx_lt h
  refine sx_iinc (k9 := 3) (v := x2) (ls2 := [(3, .int x2), (2, .int x1), (0, .ref 0), (1, .int v1)]) dX7_jarPages_41 rfl (by rw [ex2, sx_ofI1]) (by decide) rfl ?_
  refine sx_goto (tgt := 4) dX7_jarPages_44 (by decide) ?_
  refine sx_locs [2, 3, 1, 0] rfl ?_
  exact hk9.1 (x1, x2, q) (Option.some.inj h).symm
def F7_jarPages_4b  (v1 : Int32) (v2 : Int32) (v3 : Int32) (q : SQ) : Option ((Int32 × Int32 × SQ) ⊕ (Int32 × SQ)) :=
  (if gI q 2 40 ≤ v3 then some (.inr (v2, q)) else (if (v1 >>> (v3 &&& 31)) &&& (1 : Int32) = (1 : Int32) then (F7_jarSort  v3 q).bind (fun z5 => (F7_pagesOf  v3 z5.1 z5.2).bind (fun z6 => F7_jarPages_39  v1 v3 z6.1 v2 z6.2)) else F7_jarPages_39  v1 v3 (0 : Int32) v2 q))
set_option maxHeartbeats 400000 in
theorem F7_jarPages_4b_ok (l : Launch)  {Q : Option Value → SQ → Prop} (v1 : Int32) (v2 : Int32) (v3 : Int32) (q : SQ) {res : (Int32 × Int32 × SQ) ⊕ (Int32 × SQ)} (h : F7_jarPages_4b  v1 v2 v3 q = some res) (hk9 : (∀ a7, res = .inl a7 → PF7_jarPages l Q 4 [(0, .ref 0), (1, .int v1), (2, .int a7.1), (3, .int a7.2.1)] [] a7.2.2) ∧ (∀ b8, res = .inr b8 → Q (some (.int b8.1)) b8.2)) : PF7_jarPages l Q 4 [(0, .ref 0), (1, .int v1), (2, .int v2), (3, .int v3)] [] q := by
  unfold F7_jarPages_4b at h
  refine sx_iload_n dX7_jarPages_4 rfl rfl ?_
  refine sx_aload_n dX7_jarPages_5 rfl rfl ?_
  refine sx_getR dX7_jarPages_6 (hs := shM_0) (k9 := 9) (hf := rfl) cb_X7 ⟨by decide, rfl, gw_808⟩ ?_
  refine sx_bipush (v := (40 : Int32)) dX7_jarPages_9 (by decide) ?_
  refine sx_ialdC (j9 := 40) dX7_jarPages_11 shM_2 (fun _ _ => rfl) (by decide) (by decide) ?_
  refine sx_icmp_ge (tgt := 47) dX7_jarPages_12 (by decide) (fun c9 => ?_) (fun c9 => ?_)
  · replace h := sx_ip h c9
    refine sx_iload_n dX7_jarPages_47 rfl rfl ?_
    have hk9 := hk9.2 _ (Option.some.inj h).symm
    exact sx_iret dX7_jarPages_48 rfl hk9
  · replace h := sx_in h c9
    refine sx_iload_n dX7_jarPages_15 rfl rfl ?_
    refine sx_iload_n dX7_jarPages_16 rfl rfl ?_
    refine sx_iload_n dX7_jarPages_17 rfl rfl ?_
    refine sx_ishr dX7_jarPages_18 ?_
    refine sx_iconst (v := (1 : Int32)) dX7_jarPages_19 (by decide) ?_
    refine sx_iand dX7_jarPages_20 ?_
    refine sx_iconst (v := (1 : Int32)) dX7_jarPages_21 (by decide) ?_
    refine sx_icmp_ne (tgt := 38) dX7_jarPages_22 (by decide) (fun c9 => ?_) (fun c9 => ?_)
    · replace h := sx_in h c9
      refine sx_iconst (v := (0 : Int32)) dX7_jarPages_38 (by decide) ?_
      refine sx_locs [0, 1, 3] rfl ?_
      exact F7_jarPages_39_ok l  v1 v3 (0 : Int32) v2 q h hk9
    · replace h := sx_ip h c9
      refine sx_aload_n dX7_jarPages_25 rfl rfl ?_
      refine sx_iload_n dX7_jarPages_26 rfl rfl ?_
      refine sx_aload_n dX7_jarPages_27 rfl rfl ?_
      refine sx_iload_n dX7_jarPages_28 rfl rfl ?_
      obtain ⟨z5, hz5, h⟩ := sx_bd h
      refine sx_callV (o := 0) (As := [.int v3]) (rest := [.int v3, .ref 0, .int v2]) KSM (F7_jarSort_ck l  v3 q hz5) mi_X7_jarSort gw_1049 rfl ⟨gw_1051, gw_54⟩ shM_0 rfl rfl ⟨Nat.le_of_ble_eq_true rfl, Nat.le_of_ble_eq_true rfl⟩ (Nat.le_of_ble_eq_true rfl) dX7_jarPages_29 rfl ?_
      obtain ⟨z6, hz6, h⟩ := sx_bd h
      refine sx_callV (o := 0) (As := [.int v3, .int z5.1]) (rest := [.int v2]) KSM (F7_pagesOf_ck l  v3 z5.1 z5.2 hz6) mi_X7_pagesOf gw_954 rfl ⟨gw_956, gw_43⟩ shM_0 rfl rfl ⟨Nat.le_of_ble_eq_true rfl, Nat.le_of_ble_eq_true rfl⟩ (Nat.le_of_ble_eq_true rfl) dX7_jarPages_32 rfl ?_
      refine sx_goto (tgt := 39) dX7_jarPages_35 (by decide) ?_
      refine sx_locs [0, 1, 3] rfl ?_
      exact F7_jarPages_39_ok l  v1 v3 z6.1 v2 z6.2 h hk9
def F7_jarPages_4  (v1 : Int32) (v2 : Int32) (v3 : Int32) (q : SQ) : Option (Int32 × SQ) := sx_loop (fun s9 => F7_jarPages_4b  v1 s9.1 s9.2.1 s9.2.2) FU (v2, v3, q)
set_option maxHeartbeats 400000 in
theorem F7_jarPages_4_ok (l : Launch)  {Q : Option Value → SQ → Prop} (v1 : Int32) (v2 : Int32) (v3 : Int32) (q : SQ) {t : Int32 × SQ} (h : F7_jarPages_4  v1 v2 v3 q = some t) (hk9 : Q (some (.int t.1)) t.2) : PF7_jarPages l Q 4 [(0, .ref 0), (1, .int v1), (2, .int v2), (3, .int v3)] [] q := by
  unfold F7_jarPages_4 at h
  have st : ∀ (s : Int32 × Int32 × SQ) (res : (Int32 × Int32 × SQ) ⊕ (Int32 × SQ)), F7_jarPages_4b  v1 s.1 s.2.1 s.2.2 = some res → (∀ s2, res = .inl s2 → PF7_jarPages l Q 4 [(0, .ref 0), (1, .int v1), (2, .int s2.1), (3, .int s2.2.1)] [] s2.2.2) → (∀ t2, res = .inr t2 → Q (some (.int t2.1)) t2.2) → PF7_jarPages l Q 4 [(0, .ref 0), (1, .int v1), (2, .int s.1), (3, .int s.2.1)] [] s.2.2 :=
    fun s res hb hi ho => F7_jarPages_4b_ok l  v1 s.1 s.2.1 s.2.2 hb ⟨hi, ho⟩
  have h9 : PF7_jarPages l Q 4 [(0, .ref 0), (1, .int v1), (2, .int v2), (3, .int v3)] [] q := sx_lp (body := fun s => F7_jarPages_4b  v1 s.1 s.2.1 s.2.2) (P := fun s => PF7_jarPages l Q 4 [(0, .ref 0), (1, .int v1), (2, .int s.1), (3, .int s.2.1)] [] s.2.2) (T := fun t => Q (some (.int t.1)) t.2) st FU (v2, v3, q) t h hk9
  exact h9
def F7_jarPages  (v1 : Int32) (q : SQ) : Option (Int32 × SQ) :=
  F7_jarPages_4  v1 (0 : Int32) (0 : Int32) q
set_option maxHeartbeats 400000 in
theorem F7_jarPages_ok (l : Launch)  {Q : Option Value → SQ → Prop} (v1 : Int32) (q : SQ) {res : Int32 × SQ} (h : F7_jarPages  v1 q = some res) (hk9 : Q (some (.int res.1)) res.2) : PF7_jarPages l Q 0 [(0, .ref 0), (1, .int v1)] [] q := by
  unfold F7_jarPages at h
  refine sx_iconst (v := (0 : Int32)) dX7_jarPages_0 (by decide) ?_
  refine sx_istore_n (ls2 := [(2, .int (0 : Int32)), (0, .ref 0), (1, .int v1)]) dX7_jarPages_1 rfl (by decide) rfl ?_
  refine sx_iconst (v := (0 : Int32)) dX7_jarPages_2 (by decide) ?_
  refine sx_istore_n (ls2 := [(3, .int (0 : Int32)), (2, .int (0 : Int32)), (0, .ref 0), (1, .int v1)]) dX7_jarPages_3 rfl (by decide) rfl ?_
  refine sx_locs [2, 3, 1, 0] rfl ?_
  exact F7_jarPages_4_ok l  v1 (0 : Int32) (0 : Int32) q h hk9
theorem F7_jarPages_ck (l : Launch)  (v1 : Int32) (q : SQ) {r : Int32 × SQ} (h : F7_jarPages  v1 q = some r) : CK shM vwCl KM tfM l yX7_jarPages cX7_jarPages 4 ((some .int)) 5 121 [.ref 0, .int v1] q (some (.int r.1)) r.2 :=
  CK.of mi_X7_jarPages (Nat.le_of_ble_eq_true rfl) (F7_jarPages_ok l  v1 q h ⟨rfl, rfl⟩)
theorem mi_X7_jarHas : sx_MI yX7_jarHas cX7_jarHas 6 ((some .int)) 4 := ⟨by decide, ⟨by decide, by decide, by decide +kernel⟩, gw_1048, gw_68⟩
abbrev PF7_jarHas (l : Launch) (Q : Option Value → SQ → Prop) : Nat → List (Nat × Value) → List Value → SQ → Prop := XX shM vwCl KM tfM l RX7 cX7_jarHas 6 ((some .int)) { frames := 6, cells := 0, slots := 0, locals := 144 } Q
def F7_jarHas_74  (s0 : Int32) (s1 : Int32) (q : SQ) : Option (Int32 × SQ) :=
  some (s1 + s0, q)
set_option maxHeartbeats 400000 in
theorem F7_jarHas_74_ok (l : Launch)  {Q : Option Value → SQ → Prop} (s0 : Int32) (s1 : Int32) (q : SQ) {res : Int32 × SQ} (h : F7_jarHas_74  s0 s1 q = some res) (hk9 : Q (some (.int res.1)) res.2) : PF7_jarHas l Q 74 [] [.int s0, .int s1] q := by
  unfold F7_jarHas_74 at h
  refine sx_iadd dX7_jarHas_74 ?_
  obtain rfl := Option.some.inj h
  exact sx_iret dX7_jarHas_75 rfl hk9
def F7_jarHas_34  (v1 : Int32) (v2 : Int32) (v3 : Int32) (v4 : Int32) (s0 : Int32) (q : SQ) : Option (Int32 × SQ) :=
  (F7_jarPages  v2 q).bind (fun z1 => (if z1.1 < v3 then F7_jarHas_74  (0 : Int32) s0 z1.2 else (if sx_ix (((3 : Int32) * v1) + (2 : Int32)) 84 = true then F7_jarHas_74  (((v4 * (gI z1.2 2 (((3 : Int32) * v1) + (2 : Int32)).toNatClampNeg)) * (gI z1.2 4 1)) / (100 : Int32)) s0 z1.2 else none)))
set_option maxHeartbeats 400000 in
theorem F7_jarHas_34_ok (l : Launch)  {Q : Option Value → SQ → Prop} (v1 : Int32) (v2 : Int32) (v3 : Int32) (v4 : Int32) (s0 : Int32) (q : SQ) {res : Int32 × SQ} (h : F7_jarHas_34  v1 v2 v3 v4 s0 q = some res) (hk9 : Q (some (.int res.1)) res.2) : PF7_jarHas l Q 34 [(0, .ref 0), (1, .int v1), (2, .int v2), (3, .int v3), (4, .int v4)] [.int s0] q := by
  unfold F7_jarHas_34 at h
  refine sx_istore (ls2 := [(5, .int s0), (0, .ref 0), (1, .int v1), (2, .int v2), (3, .int v3), (4, .int v4)]) dX7_jarHas_34 (by decide) rfl ?_
  refine sx_iload dX7_jarHas_36 rfl ?_
  refine sx_aload_n dX7_jarHas_38 rfl rfl ?_
  refine sx_iload_n dX7_jarHas_39 rfl rfl ?_
  obtain ⟨z1, hz1, h⟩ := sx_bd h
  refine sx_callV (o := 0) (As := [.int v2]) (rest := [.int s0]) KSM (F7_jarPages_ck l  v2 q hz1) mi_X7_jarPages gw_1053 rfl ⟨gw_1055, gw_55⟩ shM_0 rfl rfl ⟨Nat.le_of_ble_eq_true rfl, Nat.le_of_ble_eq_true rfl⟩ (Nat.le_of_ble_eq_true rfl) dX7_jarHas_40 rfl ?_
  refine sx_iload_n dX7_jarHas_43 rfl rfl ?_
  refine sx_icmp_lt (tgt := 73) dX7_jarHas_44 (by decide) (fun c9 => ?_) (fun c9 => ?_)
  · replace h := sx_ip h c9
    refine sx_iconst (v := (0 : Int32)) dX7_jarHas_73 (by decide) ?_
    refine sx_locs [] rfl ?_
    exact F7_jarHas_74_ok l  (0 : Int32) s0 z1.2 h hk9
  · replace h := sx_in h c9
    refine sx_iload dX7_jarHas_47 rfl ?_
    refine sx_aload_n dX7_jarHas_49 rfl rfl ?_
    refine sx_getR dX7_jarHas_50 (hs := shM_0) (k9 := 9) (hf := rfl) cb_X7 ⟨by decide, rfl, gw_808⟩ ?_
    refine sx_iconst (v := (3 : Int32)) dX7_jarHas_53 (by decide) ?_
    refine sx_iload_n dX7_jarHas_54 rfl rfl ?_
    refine sx_imul dX7_jarHas_55 ?_
    refine sx_iconst (v := (2 : Int32)) dX7_jarHas_56 (by decide) ?_
    refine sx_iadd dX7_jarHas_57 ?_
    obtain ⟨g9, h⟩ := sx_gd h
    refine sx_iald dX7_jarHas_58 shM_2 (fun _ _ => rfl) (sx_ix_in g9) ?_
    refine sx_imul dX7_jarHas_59 ?_
    refine sx_aload_n dX7_jarHas_60 rfl rfl ?_
    refine sx_getR dX7_jarHas_61 (hs := shM_0) (k9 := 11) (hf := rfl) cb_X7 ⟨by decide, rfl, gw_810⟩ ?_
    refine sx_iconst (v := (1 : Int32)) dX7_jarHas_64 (by decide) ?_
    refine sx_ialdC (j9 := 1) dX7_jarHas_65 shM_4 (fun _ _ => rfl) (by decide) (by decide) ?_
    refine sx_imul dX7_jarHas_66 ?_
    refine sx_bipush (v := (100 : Int32)) dX7_jarHas_67 (by decide) ?_
    refine sx_idiv dX7_jarHas_69 (by decide) ?_
    refine sx_goto (tgt := 74) dX7_jarHas_70 (by decide) ?_
    refine sx_locs [] rfl ?_
    exact F7_jarHas_74_ok l  (((v4 * (gI z1.2 2 (((3 : Int32) * v1) + (2 : Int32)).toNatClampNeg)) * (gI z1.2 4 1)) / (100 : Int32)) s0 z1.2 h hk9
def F7_jarHas  (v1 : Int32) (v2 : Int32) (v3 : Int32) (v4 : Int32) (q : SQ) : Option (Int32 × SQ) :=
  (if (v2 >>> (v1 &&& 31)) &&& (1 : Int32) = (1 : Int32) then (F7_jarSort  v1 q).bind (fun z2 => (F7_joysOf 4 v1 z2.1 z2.2).bind (fun z3 => F7_jarHas_34  v1 v2 v3 v4 (z3.1 - (gI z3.2 3 0)) z3.2)) else F7_jarHas_34  v1 v2 v3 v4 (0 : Int32) q)
set_option maxHeartbeats 400000 in
theorem F7_jarHas_ok (l : Launch)  {Q : Option Value → SQ → Prop} (v1 : Int32) (v2 : Int32) (v3 : Int32) (v4 : Int32) (q : SQ) {res : Int32 × SQ} (h : F7_jarHas  v1 v2 v3 v4 q = some res) (hk9 : Q (some (.int res.1)) res.2) : PF7_jarHas l Q 0 [(0, .ref 0), (1, .int v1), (2, .int v2), (3, .int v3), (4, .int v4)] [] q := by
  unfold F7_jarHas at h
  refine sx_iload_n dX7_jarHas_0 rfl rfl ?_
  refine sx_iload_n dX7_jarHas_1 rfl rfl ?_
  refine sx_ishr dX7_jarHas_2 ?_
  refine sx_iconst (v := (1 : Int32)) dX7_jarHas_3 (by decide) ?_
  refine sx_iand dX7_jarHas_4 ?_
  refine sx_iconst (v := (1 : Int32)) dX7_jarHas_5 (by decide) ?_
  refine sx_icmp_ne (tgt := 33) dX7_jarHas_6 (by decide) (fun c9 => ?_) (fun c9 => ?_)
  · replace h := sx_in h c9
    refine sx_iconst (v := (0 : Int32)) dX7_jarHas_33 (by decide) ?_
    exact F7_jarHas_34_ok l  v1 v2 v3 v4 (0 : Int32) q h hk9
  · replace h := sx_ip h c9
    refine sx_aload_n dX7_jarHas_9 rfl rfl ?_
    refine sx_aload_n dX7_jarHas_10 rfl rfl ?_
    refine sx_getR dX7_jarHas_11 (hs := shM_0) (k9 := 11) (hf := rfl) cb_X7 ⟨by decide, rfl, gw_810⟩ ?_
    refine sx_iload_n dX7_jarHas_14 rfl rfl ?_
    refine sx_aload_n dX7_jarHas_15 rfl rfl ?_
    refine sx_iload_n dX7_jarHas_16 rfl rfl ?_
    obtain ⟨z2, hz2, h⟩ := sx_bd h
    refine sx_callV (o := 0) (As := [.int v1]) (rest := [.int v1, .ref 4, .ref 0]) KSM (F7_jarSort_ck l  v1 q hz2) mi_X7_jarSort gw_1049 rfl ⟨gw_1051, gw_54⟩ shM_0 rfl rfl ⟨Nat.le_of_ble_eq_true rfl, Nat.le_of_ble_eq_true rfl⟩ (Nat.le_of_ble_eq_true rfl) dX7_jarHas_17 rfl ?_
    obtain ⟨z3, hz3, h⟩ := sx_bd h
    refine sx_callV (o := 0) (As := [.ref 4, .int v1, .int z2.1]) (rest := []) KSM (F7_joysOf_ck l 4 shM_4 v1 z2.1 z2.2 hz3) mi_X7_joysOf gw_958 rfl ⟨gw_960, gw_44⟩ shM_0 rfl rfl ⟨Nat.le_of_ble_eq_true rfl, Nat.le_of_ble_eq_true rfl⟩ (Nat.le_of_ble_eq_true rfl) dX7_jarHas_20 rfl ?_
    refine sx_aload_n dX7_jarHas_23 rfl rfl ?_
    refine sx_getR dX7_jarHas_24 (hs := shM_0) (k9 := 10) (hf := rfl) cb_X7 ⟨by decide, rfl, gw_809⟩ ?_
    refine sx_iconst (v := (0 : Int32)) dX7_jarHas_27 (by decide) ?_
    refine sx_ialdC (j9 := 0) dX7_jarHas_28 shM_3 (fun _ _ => rfl) (by decide) (by decide) ?_
    refine sx_isub dX7_jarHas_29 ?_
    refine sx_goto (tgt := 34) dX7_jarHas_30 (by decide) ?_
    exact F7_jarHas_34_ok l  v1 v2 v3 v4 (z3.1 - (gI z3.2 3 0)) z3.2 h hk9
theorem F7_jarHas_ck (l : Launch)  (v1 : Int32) (v2 : Int32) (v3 : Int32) (v4 : Int32) (q : SQ) {r : Int32 × SQ} (h : F7_jarHas  v1 v2 v3 v4 q = some r) : CK shM vwCl KM tfM l yX7_jarHas cX7_jarHas 6 ((some .int)) 6 144 [.ref 0, .int v1, .int v2, .int v3, .int v4] q (some (.int r.1)) r.2 :=
  CK.of mi_X7_jarHas (Nat.le_of_ble_eq_true rfl) (F7_jarHas_ok l  v1 v2 v3 v4 q h ⟨rfl, rfl⟩)
theorem mi_X7_rests : sx_MI yX7_rests cX7_rests 9 ((some .int)) 3 := ⟨by decide, ⟨by decide, by decide, by decide +kernel⟩, gw_1044, gw_68⟩
abbrev PF7_rests (l : Launch) (Q : Option Value → SQ → Prop) : Nat → List (Nat × Value) → List Value → SQ → Prop := XX shM vwCl KM tfM l RX7 cX7_rests 9 ((some .int)) { frames := 7, cells := 0, slots := 0, locals := 169 } Q
def F7_rests_35   (q : SQ) : Option (Int32 × SQ) :=
  some ((-1 : Int32), q)
set_option maxHeartbeats 400000 in
theorem F7_rests_35_ok (l : Launch)  {Q : Option Value → SQ → Prop}  (q : SQ) {res : Int32 × SQ} (h : F7_rests_35   q = some res) (hk9 : Q (some (.int res.1)) res.2) : PF7_rests l Q 35 [] [] q := by
  unfold F7_rests_35 at h
  refine sx_iconst (v := (-1 : Int32)) dX7_rests_35 (by decide) ?_
  obtain rfl := Option.some.inj h
  exact sx_iret dX7_rests_36 rfl hk9
def F7_rests_169  (v1 : Int32) (v2 : Int32) (v3 : Int32) (v5 : Int32) (v6 : Int32) (s0 : Int32) (s1 : Int32) (q : SQ) : Option ((Int32 × Int32 × Int32 × SQ) ⊕ (Int32 × SQ)) :=
  sx_let (s1 + s0) (fun x5 => sx_let (v6 + (1 : Int32)) (fun x6 => some (.inl (x5, v5, x6, q))))
set_option maxHeartbeats 400000 in
theorem F7_rests_169_ok (l : Launch)  {Q : Option Value → SQ → Prop} (v1 : Int32) (v2 : Int32) (v3 : Int32) (v5 : Int32) (v6 : Int32) (s0 : Int32) (s1 : Int32) (q : SQ) {res : (Int32 × Int32 × Int32 × SQ) ⊕ (Int32 × SQ)} (h : F7_rests_169  v1 v2 v3 v5 v6 s0 s1 q = some res) (hk9 : (∀ a7, res = .inl a7 → PF7_rests l Q 60 [(0, .ref 0), (1, .int v1), (2, .int v2), (3, .int v3), (4, .int a7.1), (5, .int a7.2.1), (6, .int a7.2.2.1)] [] a7.2.2.2) ∧ (∀ b8, res = .inr b8 → Q (some (.int b8.1)) b8.2)) : PF7_rests l Q 169 [(0, .ref 0), (1, .int v1), (2, .int v2), (3, .int v3), (5, .int v5), (6, .int v6)] [.int s0, .int s1] q := by
  unfold F7_rests_169 at h
  refine sx_iadd dX7_rests_169 ?_
  obtain ⟨x5, ex5, h⟩ := sx_lt h
  refine sx_nmI ex5 ?_
  refine sx_istore (ls2 := [(4, .int x5), (0, .ref 0), (1, .int v1), (2, .int v2), (3, .int v3), (5, .int v5), (6, .int v6)]) dX7_rests_170 (by decide) rfl ?_
  obtain ⟨x6, ex6, h⟩ := sx_lt h
  refine sx_iinc (k9 := 6) (v := x6) (ls2 := [(6, .int x6), (4, .int x5), (0, .ref 0), (1, .int v1), (2, .int v2), (3, .int v3), (5, .int v5)]) dX7_rests_172 rfl (by rw [ex6, sx_ofI1]) (by decide) rfl ?_
  refine sx_goto (tgt := 60) dX7_rests_175 (by decide) ?_
  refine sx_locs [2, 3, 4, 5, 1, 6, 0] rfl ?_
  exact hk9.1 (x5, v5, x6, q) (Option.some.inj h).symm
def F7_rests_155  (v1 : Int32) (v2 : Int32) (v3 : Int32) (v4 : Int32) (v6 : Int32) (v7 : Int32) (s0 : Int32) (q : SQ) : Option ((Int32 × Int32 × Int32 × SQ) ⊕ (Int32 × SQ)) :=
  (if v7 = 0 then F7_rests_169  v1 v2 v3 s0 v6 (0 : Int32) v4 q else F7_rests_169  v1 v2 v3 s0 v6 (1 : Int32) v4 q)
set_option maxHeartbeats 400000 in
theorem F7_rests_155_ok (l : Launch)  {Q : Option Value → SQ → Prop} (v1 : Int32) (v2 : Int32) (v3 : Int32) (v4 : Int32) (v6 : Int32) (v7 : Int32) (s0 : Int32) (q : SQ) {res : (Int32 × Int32 × Int32 × SQ) ⊕ (Int32 × SQ)} (h : F7_rests_155  v1 v2 v3 v4 v6 v7 s0 q = some res) (hk9 : (∀ a9, res = .inl a9 → PF7_rests l Q 60 [(0, .ref 0), (1, .int v1), (2, .int v2), (3, .int v3), (4, .int a9.1), (5, .int a9.2.1), (6, .int a9.2.2.1)] [] a9.2.2.2) ∧ (∀ b10, res = .inr b10 → Q (some (.int b10.1)) b10.2)) : PF7_rests l Q 155 [(0, .ref 0), (1, .int v1), (2, .int v2), (3, .int v3), (4, .int v4), (6, .int v6), (7, .int v7)] [.int s0] q := by
  unfold F7_rests_155 at h
  refine sx_istore (ls2 := [(5, .int s0), (0, .ref 0), (1, .int v1), (2, .int v2), (3, .int v3), (4, .int v4), (6, .int v6), (7, .int v7)]) dX7_rests_155 (by decide) rfl ?_
  refine sx_iload dX7_rests_157 rfl ?_
  refine sx_iload dX7_rests_159 rfl ?_
  refine sx_if_eq (tgt := 168) dX7_rests_161 (by decide) (fun c9 => ?_) (fun c9 => ?_)
  · replace h := sx_ip h c9
    refine sx_iconst (v := (0 : Int32)) dX7_rests_168 (by decide) ?_
    refine sx_locs [1, 2, 3, 4, 0, 6] rfl ?_
    exact F7_rests_169_ok l  v1 v2 v3 s0 v6 (0 : Int32) v4 q h hk9
  · replace h := sx_in h c9
    refine sx_iconst (v := (1 : Int32)) dX7_rests_164 (by decide) ?_
    refine sx_goto (tgt := 169) dX7_rests_165 (by decide) ?_
    refine sx_locs [1, 2, 3, 4, 0, 6] rfl ?_
    exact F7_rests_169_ok l  v1 v2 v3 s0 v6 (1 : Int32) v4 q h hk9
def F7_rests_153  (v1 : Int32) (v2 : Int32) (v3 : Int32) (v4 : Int32) (v5 : Int32) (v6 : Int32) (v7 : Int32) (q : SQ) : Option ((Int32 × Int32 × Int32 × SQ) ⊕ (Int32 × SQ)) :=
  F7_rests_155  v1 v2 v3 v4 v6 v7 v5 q
set_option maxHeartbeats 400000 in
theorem F7_rests_153_ok (l : Launch)  {Q : Option Value → SQ → Prop} (v1 : Int32) (v2 : Int32) (v3 : Int32) (v4 : Int32) (v5 : Int32) (v6 : Int32) (v7 : Int32) (q : SQ) {res : (Int32 × Int32 × Int32 × SQ) ⊕ (Int32 × SQ)} (h : F7_rests_153  v1 v2 v3 v4 v5 v6 v7 q = some res) (hk9 : (∀ a11, res = .inl a11 → PF7_rests l Q 60 [(0, .ref 0), (1, .int v1), (2, .int v2), (3, .int v3), (4, .int a11.1), (5, .int a11.2.1), (6, .int a11.2.2.1)] [] a11.2.2.2) ∧ (∀ b12, res = .inr b12 → Q (some (.int b12.1)) b12.2)) : PF7_rests l Q 153 [(0, .ref 0), (1, .int v1), (2, .int v2), (3, .int v3), (4, .int v4), (5, .int v5), (6, .int v6), (7, .int v7)] [] q := by
  unfold F7_rests_153 at h
  refine sx_iload dX7_rests_153 rfl ?_
  refine sx_locs [0, 1, 2, 3, 4, 6, 7] rfl ?_
  exact F7_rests_155_ok l  v1 v2 v3 v4 v6 v7 v5 q h hk9
def F7_rests_130  (v1 : Int32) (v2 : Int32) (v3 : Int32) (v4 : Int32) (v5 : Int32) (v6 : Int32) (v8 : Int32) (s0 : Int32) (q : SQ) : Option ((Int32 × Int32 × SQ) ⊕ ((Int32 × Int32 × Int32 × SQ) ⊕ (Int32 × SQ))) :=
  sx_let (v8 + (1 : Int32)) (fun x13 => some (.inl (s0, x13, q)))
set_option maxHeartbeats 400000 in
theorem F7_rests_130_ok (l : Launch)  {Q : Option Value → SQ → Prop} (v1 : Int32) (v2 : Int32) (v3 : Int32) (v4 : Int32) (v5 : Int32) (v6 : Int32) (v8 : Int32) (s0 : Int32) (q : SQ) {res : (Int32 × Int32 × SQ) ⊕ ((Int32 × Int32 × Int32 × SQ) ⊕ (Int32 × SQ))} (h : F7_rests_130  v1 v2 v3 v4 v5 v6 v8 s0 q = some res) (hk9 : (∀ a14, res = .inl a14 → PF7_rests l Q 80 [(0, .ref 0), (1, .int v1), (2, .int v2), (3, .int v3), (4, .int v4), (5, .int v5), (6, .int v6), (7, .int a14.1), (8, .int a14.2.1)] [] a14.2.2) ∧ (∀ b15, res = .inr b15 → (∀ a16, b15 = .inl a16 → PF7_rests l Q 60 [(0, .ref 0), (1, .int v1), (2, .int v2), (3, .int v3), (4, .int a16.1), (5, .int a16.2.1), (6, .int a16.2.2.1)] [] a16.2.2.2) ∧ (∀ b17, b15 = .inr b17 → Q (some (.int b17.1)) b17.2))) : PF7_rests l Q 130 [(0, .ref 0), (1, .int v1), (2, .int v2), (3, .int v3), (4, .int v4), (5, .int v5), (6, .int v6), (8, .int v8)] [.int s0] q := by
  unfold F7_rests_130 at h
  refine sx_istore (ls2 := [(7, .int s0), (0, .ref 0), (1, .int v1), (2, .int v2), (3, .int v3), (4, .int v4), (5, .int v5), (6, .int v6), (8, .int v8)]) dX7_rests_130 (by decide) rfl ?_
  obtain ⟨x13, ex13, h⟩ := sx_lt h
  refine sx_iinc (k9 := 8) (v := x13) (ls2 := [(8, .int x13), (7, .int s0), (0, .ref 0), (1, .int v1), (2, .int v2), (3, .int v3), (4, .int v4), (5, .int v5), (6, .int v6)]) dX7_rests_132 rfl (by rw [ex13, sx_ofI1]) (by decide) rfl ?_
  refine sx_goto (tgt := 80) dX7_rests_135 (by decide) ?_
  refine sx_locs [2, 3, 4, 5, 6, 7, 8, 1, 0] rfl ?_
  exact hk9.1 (s0, x13, q) (Option.some.inj h).symm
def F7_rests_129  (v1 : Int32) (v2 : Int32) (v3 : Int32) (v4 : Int32) (v5 : Int32) (v6 : Int32) (v8 : Int32) (q : SQ) : Option ((Int32 × Int32 × SQ) ⊕ ((Int32 × Int32 × Int32 × SQ) ⊕ (Int32 × SQ))) :=
  F7_rests_130  v1 v2 v3 v4 v5 v6 v8 (0 : Int32) q
set_option maxHeartbeats 400000 in
theorem F7_rests_129_ok (l : Launch)  {Q : Option Value → SQ → Prop} (v1 : Int32) (v2 : Int32) (v3 : Int32) (v4 : Int32) (v5 : Int32) (v6 : Int32) (v8 : Int32) (q : SQ) {res : (Int32 × Int32 × SQ) ⊕ ((Int32 × Int32 × Int32 × SQ) ⊕ (Int32 × SQ))} (h : F7_rests_129  v1 v2 v3 v4 v5 v6 v8 q = some res) (hk9 : (∀ a18, res = .inl a18 → PF7_rests l Q 80 [(0, .ref 0), (1, .int v1), (2, .int v2), (3, .int v3), (4, .int v4), (5, .int v5), (6, .int v6), (7, .int a18.1), (8, .int a18.2.1)] [] a18.2.2) ∧ (∀ b19, res = .inr b19 → (∀ a20, b19 = .inl a20 → PF7_rests l Q 60 [(0, .ref 0), (1, .int v1), (2, .int v2), (3, .int v3), (4, .int a20.1), (5, .int a20.2.1), (6, .int a20.2.2.1)] [] a20.2.2.2) ∧ (∀ b21, b19 = .inr b21 → Q (some (.int b21.1)) b21.2))) : PF7_rests l Q 129 [(0, .ref 0), (1, .int v1), (2, .int v2), (3, .int v3), (4, .int v4), (5, .int v5), (6, .int v6), (8, .int v8)] [] q := by
  unfold F7_rests_129 at h
  refine sx_iconst (v := (0 : Int32)) dX7_rests_129 (by decide) ?_
  exact F7_rests_130_ok l  v1 v2 v3 v4 v5 v6 v8 (0 : Int32) q h hk9
def F7_rests_80b  (v1 : Int32) (v2 : Int32) (v3 : Int32) (v4 : Int32) (v5 : Int32) (v6 : Int32) (v7 : Int32) (v8 : Int32) (q : SQ) : Option ((Int32 × Int32 × SQ) ⊕ ((Int32 × Int32 × Int32 × SQ) ⊕ (Int32 × SQ))) :=
  (if gI q 2 40 ≤ v8 then (if v7 = 0 then (F7_rests_153  v1 v2 v3 v4 v5 v6 v7 q).map .inr else (if v4 = 0 then (F7_rests_155  v1 v2 v3 v4 v6 v7 v6 q).map .inr else (F7_rests_153  v1 v2 v3 v4 v5 v6 v7 q).map .inr)) else (if v7 = 0 then F7_rests_129  v1 v2 v3 v4 v5 v6 v8 q else (F7_jarHas  v8 (v6 ^^^ ((1 : Int32) <<< (v8 &&& 31))) v1 v2 q).bind (fun z22 => (F7_jarHas  v8 v6 v1 v2 z22.2).bind (fun z23 => (if z23.1 < z22.1 then F7_rests_129  v1 v2 v3 v4 v5 v6 v8 z23.2 else F7_rests_130  v1 v2 v3 v4 v5 v6 v8 (1 : Int32) z23.2)))))
set_option maxHeartbeats 400000 in
theorem F7_rests_80b_ok (l : Launch)  {Q : Option Value → SQ → Prop} (v1 : Int32) (v2 : Int32) (v3 : Int32) (v4 : Int32) (v5 : Int32) (v6 : Int32) (v7 : Int32) (v8 : Int32) (q : SQ) {res : (Int32 × Int32 × SQ) ⊕ ((Int32 × Int32 × Int32 × SQ) ⊕ (Int32 × SQ))} (h : F7_rests_80b  v1 v2 v3 v4 v5 v6 v7 v8 q = some res) (hk9 : (∀ a24, res = .inl a24 → PF7_rests l Q 80 [(0, .ref 0), (1, .int v1), (2, .int v2), (3, .int v3), (4, .int v4), (5, .int v5), (6, .int v6), (7, .int a24.1), (8, .int a24.2.1)] [] a24.2.2) ∧ (∀ b25, res = .inr b25 → (∀ a26, b25 = .inl a26 → PF7_rests l Q 60 [(0, .ref 0), (1, .int v1), (2, .int v2), (3, .int v3), (4, .int a26.1), (5, .int a26.2.1), (6, .int a26.2.2.1)] [] a26.2.2.2) ∧ (∀ b27, b25 = .inr b27 → Q (some (.int b27.1)) b27.2))) : PF7_rests l Q 80 [(0, .ref 0), (1, .int v1), (2, .int v2), (3, .int v3), (4, .int v4), (5, .int v5), (6, .int v6), (7, .int v7), (8, .int v8)] [] q := by
  unfold F7_rests_80b at h
  refine sx_iload dX7_rests_80 rfl ?_
  refine sx_aload_n dX7_rests_82 rfl rfl ?_
  refine sx_getR dX7_rests_83 (hs := shM_0) (k9 := 9) (hf := rfl) cb_X7 ⟨by decide, rfl, gw_808⟩ ?_
  refine sx_bipush (v := (40 : Int32)) dX7_rests_86 (by decide) ?_
  refine sx_ialdC (j9 := 40) dX7_rests_88 shM_2 (fun _ _ => rfl) (by decide) (by decide) ?_
  refine sx_icmp_ge (tgt := 138) dX7_rests_89 (by decide) (fun c9 => ?_) (fun c9 => ?_)
  · replace h := sx_ip h c9
    refine sx_iload dX7_rests_138 rfl ?_
    refine sx_if_eq (tgt := 153) dX7_rests_140 (by decide) (fun c9 => ?_) (fun c9 => ?_)
    · replace h := sx_ip h c9
      obtain ⟨t9, h, hr9⟩ := sx_mp h
      have hk9 := hk9.2 _ hr9
      refine sx_locs [0, 1, 2, 3, 4, 5, 6, 7] rfl ?_
      exact F7_rests_153_ok l  v1 v2 v3 v4 v5 v6 v7 q h hk9
    · replace h := sx_in h c9
      refine sx_iload dX7_rests_143 rfl ?_
      refine sx_if_ne (tgt := 153) dX7_rests_145 (by decide) (fun c9 => ?_) (fun c9 => ?_)
      · replace h := sx_in h c9
        obtain ⟨t9, h, hr9⟩ := sx_mp h
        have hk9 := hk9.2 _ hr9
        refine sx_locs [0, 1, 2, 3, 4, 5, 6, 7] rfl ?_
        exact F7_rests_153_ok l  v1 v2 v3 v4 v5 v6 v7 q h hk9
      · replace h := sx_ip h c9
        refine sx_iload dX7_rests_148 rfl ?_
        refine sx_goto (tgt := 155) dX7_rests_150 (by decide) ?_
        obtain ⟨t9, h, hr9⟩ := sx_mp h
        have hk9 := hk9.2 _ hr9
        refine sx_locs [0, 1, 2, 3, 4, 6, 7] rfl ?_
        exact F7_rests_155_ok l  v1 v2 v3 v4 v6 v7 v6 q h hk9
  · replace h := sx_in h c9
    refine sx_iload dX7_rests_92 rfl ?_
    refine sx_if_eq (tgt := 129) dX7_rests_94 (by decide) (fun c9 => ?_) (fun c9 => ?_)
    · replace h := sx_ip h c9
      refine sx_locs [0, 1, 2, 3, 4, 5, 6, 8] rfl ?_
      exact F7_rests_129_ok l  v1 v2 v3 v4 v5 v6 v8 q h hk9
    · replace h := sx_in h c9
      refine sx_aload_n dX7_rests_97 rfl rfl ?_
      refine sx_iload dX7_rests_98 rfl ?_
      refine sx_iload dX7_rests_100 rfl ?_
      refine sx_iconst (v := (1 : Int32)) dX7_rests_102 (by decide) ?_
      refine sx_iload dX7_rests_103 rfl ?_
      refine sx_ishl dX7_rests_105 ?_
      refine sx_ixor dX7_rests_106 ?_
      refine sx_iload_n dX7_rests_107 rfl rfl ?_
      refine sx_iload_n dX7_rests_108 rfl rfl ?_
      obtain ⟨z22, hz22, h⟩ := sx_bd h
      refine sx_callV (o := 0) (As := [.int v8, .int (v6 ^^^ ((1 : Int32) <<< (v8 &&& 31))), .int v1, .int v2]) (rest := []) KSM (F7_jarHas_ck l  v8 (v6 ^^^ ((1 : Int32) <<< (v8 &&& 31))) v1 v2 q hz22) mi_X7_jarHas gw_1045 rfl ⟨gw_1047, gw_53⟩ shM_0 rfl rfl ⟨Nat.le_of_ble_eq_true rfl, Nat.le_of_ble_eq_true rfl⟩ (Nat.le_of_ble_eq_true rfl) dX7_rests_109 rfl ?_
      refine sx_aload_n dX7_rests_112 rfl rfl ?_
      refine sx_iload dX7_rests_113 rfl ?_
      refine sx_iload dX7_rests_115 rfl ?_
      refine sx_iload_n dX7_rests_117 rfl rfl ?_
      refine sx_iload_n dX7_rests_118 rfl rfl ?_
      obtain ⟨z23, hz23, h⟩ := sx_bd h
      refine sx_callV (o := 0) (As := [.int v8, .int v6, .int v1, .int v2]) (rest := [.int z22.1]) KSM (F7_jarHas_ck l  v8 v6 v1 v2 z22.2 hz23) mi_X7_jarHas gw_1045 rfl ⟨gw_1047, gw_53⟩ shM_0 rfl rfl ⟨Nat.le_of_ble_eq_true rfl, Nat.le_of_ble_eq_true rfl⟩ (Nat.le_of_ble_eq_true rfl) dX7_rests_119 rfl ?_
      refine sx_icmp_gt (tgt := 129) dX7_rests_122 (by decide) (fun c9 => ?_) (fun c9 => ?_)
      · replace h := sx_ip h c9
        refine sx_locs [0, 1, 2, 3, 4, 5, 6, 8] rfl ?_
        exact F7_rests_129_ok l  v1 v2 v3 v4 v5 v6 v8 z23.2 h hk9
      · replace h := sx_in h c9
        refine sx_iconst (v := (1 : Int32)) dX7_rests_125 (by decide) ?_
        refine sx_goto (tgt := 130) dX7_rests_126 (by decide) ?_
        refine sx_locs [0, 1, 2, 3, 4, 5, 6, 8] rfl ?_
        exact F7_rests_130_ok l  v1 v2 v3 v4 v5 v6 v8 (1 : Int32) z23.2 h hk9
def F7_rests_80  (v1 : Int32) (v2 : Int32) (v3 : Int32) (v4 : Int32) (v5 : Int32) (v6 : Int32) (v7 : Int32) (v8 : Int32) (q : SQ) : Option ((Int32 × Int32 × Int32 × SQ) ⊕ (Int32 × SQ)) := sx_loop (fun s28 => F7_rests_80b  v1 v2 v3 v4 v5 v6 s28.1 s28.2.1 s28.2.2) FU (v7, v8, q)
set_option maxHeartbeats 400000 in
theorem F7_rests_80_ok (l : Launch)  {Q : Option Value → SQ → Prop} (v1 : Int32) (v2 : Int32) (v3 : Int32) (v4 : Int32) (v5 : Int32) (v6 : Int32) (v7 : Int32) (v8 : Int32) (q : SQ) {t : (Int32 × Int32 × Int32 × SQ) ⊕ (Int32 × SQ)} (h : F7_rests_80  v1 v2 v3 v4 v5 v6 v7 v8 q = some t) (hk9 : (∀ a29, t = .inl a29 → PF7_rests l Q 60 [(0, .ref 0), (1, .int v1), (2, .int v2), (3, .int v3), (4, .int a29.1), (5, .int a29.2.1), (6, .int a29.2.2.1)] [] a29.2.2.2) ∧ (∀ b30, t = .inr b30 → Q (some (.int b30.1)) b30.2)) : PF7_rests l Q 80 [(0, .ref 0), (1, .int v1), (2, .int v2), (3, .int v3), (4, .int v4), (5, .int v5), (6, .int v6), (7, .int v7), (8, .int v8)] [] q := by
  unfold F7_rests_80 at h
  have st : ∀ (s : Int32 × Int32 × SQ) (res : (Int32 × Int32 × SQ) ⊕ ((Int32 × Int32 × Int32 × SQ) ⊕ (Int32 × SQ))), F7_rests_80b  v1 v2 v3 v4 v5 v6 s.1 s.2.1 s.2.2 = some res → (∀ s2, res = .inl s2 → PF7_rests l Q 80 [(0, .ref 0), (1, .int v1), (2, .int v2), (3, .int v3), (4, .int v4), (5, .int v5), (6, .int v6), (7, .int s2.1), (8, .int s2.2.1)] [] s2.2.2) → (∀ t2, res = .inr t2 → (∀ a31, t2 = .inl a31 → PF7_rests l Q 60 [(0, .ref 0), (1, .int v1), (2, .int v2), (3, .int v3), (4, .int a31.1), (5, .int a31.2.1), (6, .int a31.2.2.1)] [] a31.2.2.2) ∧ (∀ b32, t2 = .inr b32 → Q (some (.int b32.1)) b32.2)) → PF7_rests l Q 80 [(0, .ref 0), (1, .int v1), (2, .int v2), (3, .int v3), (4, .int v4), (5, .int v5), (6, .int v6), (7, .int s.1), (8, .int s.2.1)] [] s.2.2 :=
    fun s res hb hi ho => F7_rests_80b_ok l  v1 v2 v3 v4 v5 v6 s.1 s.2.1 s.2.2 hb ⟨hi, ho⟩
  have h9 : PF7_rests l Q 80 [(0, .ref 0), (1, .int v1), (2, .int v2), (3, .int v3), (4, .int v4), (5, .int v5), (6, .int v6), (7, .int v7), (8, .int v8)] [] q := sx_lp (body := fun s => F7_rests_80b  v1 v2 v3 v4 v5 v6 s.1 s.2.1 s.2.2) (P := fun s => PF7_rests l Q 80 [(0, .ref 0), (1, .int v1), (2, .int v2), (3, .int v3), (4, .int v4), (5, .int v5), (6, .int v6), (7, .int s.1), (8, .int s.2.1)] [] s.2.2) (T := fun t => (∀ a33, t = .inl a33 → PF7_rests l Q 60 [(0, .ref 0), (1, .int v1), (2, .int v2), (3, .int v3), (4, .int a33.1), (5, .int a33.2.1), (6, .int a33.2.2.1)] [] a33.2.2.2) ∧ (∀ b34, t = .inr b34 → Q (some (.int b34.1)) b34.2)) st FU (v7, v8, q) t h hk9
  exact h9
def F7_rests_60b  (v1 : Int32) (v2 : Int32) (v3 : Int32) (v4 : Int32) (v5 : Int32) (v6 : Int32) (q : SQ) : Option ((Int32 × Int32 × Int32 × SQ) ⊕ (Int32 × SQ)) :=
  (if (1 : Int32) <<< (gI q 2 40 &&& 31) ≤ v6 then (if v3 = 0 then some (.inr (v4, q)) else some (.inr (v5, q))) else F7_rests_80  v1 v2 v3 v4 v5 v6 (1 : Int32) (0 : Int32) q)
set_option maxHeartbeats 400000 in
theorem F7_rests_60b_ok (l : Launch)  {Q : Option Value → SQ → Prop} (v1 : Int32) (v2 : Int32) (v3 : Int32) (v4 : Int32) (v5 : Int32) (v6 : Int32) (q : SQ) {res : (Int32 × Int32 × Int32 × SQ) ⊕ (Int32 × SQ)} (h : F7_rests_60b  v1 v2 v3 v4 v5 v6 q = some res) (hk9 : (∀ a35, res = .inl a35 → PF7_rests l Q 60 [(0, .ref 0), (1, .int v1), (2, .int v2), (3, .int v3), (4, .int a35.1), (5, .int a35.2.1), (6, .int a35.2.2.1)] [] a35.2.2.2) ∧ (∀ b36, res = .inr b36 → Q (some (.int b36.1)) b36.2)) : PF7_rests l Q 60 [(0, .ref 0), (1, .int v1), (2, .int v2), (3, .int v3), (4, .int v4), (5, .int v5), (6, .int v6)] [] q := by
  unfold F7_rests_60b at h
  refine sx_iload dX7_rests_60 rfl ?_
  refine sx_iconst (v := (1 : Int32)) dX7_rests_62 (by decide) ?_
  refine sx_aload_n dX7_rests_63 rfl rfl ?_
  refine sx_getR dX7_rests_64 (hs := shM_0) (k9 := 9) (hf := rfl) cb_X7 ⟨by decide, rfl, gw_808⟩ ?_
  refine sx_bipush (v := (40 : Int32)) dX7_rests_67 (by decide) ?_
  refine sx_ialdC (j9 := 40) dX7_rests_69 shM_2 (fun _ _ => rfl) (by decide) (by decide) ?_
  refine sx_ishl dX7_rests_70 ?_
  refine sx_icmp_ge (tgt := 178) dX7_rests_71 (by decide) (fun c9 => ?_) (fun c9 => ?_)
  · replace h := sx_ip h c9
    refine sx_iload_n dX7_rests_178 rfl rfl ?_
    refine sx_if_ne (tgt := 187) dX7_rests_179 (by decide) (fun c9 => ?_) (fun c9 => ?_)
    · replace h := sx_in h c9
      refine sx_iload dX7_rests_187 rfl ?_
      have hk9 := hk9.2 _ (Option.some.inj h).symm
      exact sx_iret dX7_rests_189 rfl hk9
    · replace h := sx_ip h c9
      refine sx_iload dX7_rests_182 rfl ?_
      refine sx_goto (tgt := 189) dX7_rests_184 (by decide) ?_
      have hk9 := hk9.2 _ (Option.some.inj h).symm
      exact sx_iret dX7_rests_189 rfl hk9
  · replace h := sx_in h c9
    refine sx_iconst (v := (1 : Int32)) dX7_rests_74 (by decide) ?_
    refine sx_istore (ls2 := [(7, .int (1 : Int32)), (0, .ref 0), (1, .int v1), (2, .int v2), (3, .int v3), (4, .int v4), (5, .int v5), (6, .int v6)]) dX7_rests_75 (by decide) rfl ?_
    refine sx_iconst (v := (0 : Int32)) dX7_rests_77 (by decide) ?_
    refine sx_istore (ls2 := [(8, .int (0 : Int32)), (7, .int (1 : Int32)), (0, .ref 0), (1, .int v1), (2, .int v2), (3, .int v3), (4, .int v4), (5, .int v5), (6, .int v6)]) dX7_rests_78 (by decide) rfl ?_
    refine sx_locs [2, 3, 4, 5, 6, 7, 8, 1, 0] rfl ?_
    exact F7_rests_80_ok l  v1 v2 v3 v4 v5 v6 (1 : Int32) (0 : Int32) q h hk9
def F7_rests_60  (v1 : Int32) (v2 : Int32) (v3 : Int32) (v4 : Int32) (v5 : Int32) (v6 : Int32) (q : SQ) : Option (Int32 × SQ) := sx_loop (fun s37 => F7_rests_60b  v1 v2 v3 s37.1 s37.2.1 s37.2.2.1 s37.2.2.2) FU (v4, v5, v6, q)
set_option maxHeartbeats 400000 in
theorem F7_rests_60_ok (l : Launch)  {Q : Option Value → SQ → Prop} (v1 : Int32) (v2 : Int32) (v3 : Int32) (v4 : Int32) (v5 : Int32) (v6 : Int32) (q : SQ) {t : Int32 × SQ} (h : F7_rests_60  v1 v2 v3 v4 v5 v6 q = some t) (hk9 : Q (some (.int t.1)) t.2) : PF7_rests l Q 60 [(0, .ref 0), (1, .int v1), (2, .int v2), (3, .int v3), (4, .int v4), (5, .int v5), (6, .int v6)] [] q := by
  unfold F7_rests_60 at h
  have st : ∀ (s : Int32 × Int32 × Int32 × SQ) (res : (Int32 × Int32 × Int32 × SQ) ⊕ (Int32 × SQ)), F7_rests_60b  v1 v2 v3 s.1 s.2.1 s.2.2.1 s.2.2.2 = some res → (∀ s2, res = .inl s2 → PF7_rests l Q 60 [(0, .ref 0), (1, .int v1), (2, .int v2), (3, .int v3), (4, .int s2.1), (5, .int s2.2.1), (6, .int s2.2.2.1)] [] s2.2.2.2) → (∀ t2, res = .inr t2 → Q (some (.int t2.1)) t2.2) → PF7_rests l Q 60 [(0, .ref 0), (1, .int v1), (2, .int v2), (3, .int v3), (4, .int s.1), (5, .int s.2.1), (6, .int s.2.2.1)] [] s.2.2.2 :=
    fun s res hb hi ho => F7_rests_60b_ok l  v1 v2 v3 s.1 s.2.1 s.2.2.1 s.2.2.2 hb ⟨hi, ho⟩
  have h9 : PF7_rests l Q 60 [(0, .ref 0), (1, .int v1), (2, .int v2), (3, .int v3), (4, .int v4), (5, .int v5), (6, .int v6)] [] q := sx_lp (body := fun s => F7_rests_60b  v1 v2 v3 s.1 s.2.1 s.2.2.1 s.2.2.2) (P := fun s => PF7_rests l Q 60 [(0, .ref 0), (1, .int v1), (2, .int v2), (3, .int v3), (4, .int s.1), (5, .int s.2.1), (6, .int s.2.2.1)] [] s.2.2.2) (T := fun t => Q (some (.int t.1)) t.2) st FU (v4, v5, v6, q) t h hk9
  exact h9
def F7_rests  (v1 : Int32) (v2 : Int32) (v3 : Int32) (q : SQ) : Option (Int32 × SQ) :=
  sx_let (sI q 0 0 (0 : Int32)) (fun q1 => (F7_in  v1 (1 : Int32) (999 : Int32) q1).bind (fun z2 => (if z2.1 = 0 then F7_rests_35   z2.2 else (F7_in  v2 (0 : Int32) (99 : Int32) z2.2).bind (fun z3 => (if z3.1 = 0 then F7_rests_35   z3.2 else (F7_in  v3 (0 : Int32) (1 : Int32) z3.2).bind (fun z4 => (if z4.1 = 0 then F7_rests_35   z4.2 else (if gI z4.2 2 41 = 0 then some ((-2 : Int32), z4.2) else F7_rests_60  v1 v2 v3 (0 : Int32) (-9 : Int32) (0 : Int32) z4.2))))))))
set_option maxHeartbeats 400000 in
theorem F7_rests_ok (l : Launch)  {Q : Option Value → SQ → Prop} (v1 : Int32) (v2 : Int32) (v3 : Int32) (q : SQ) {res : Int32 × SQ} (h : F7_rests  v1 v2 v3 q = some res) (hk9 : Q (some (.int res.1)) res.2) : PF7_rests l Q 0 [(0, .ref 0), (1, .int v1), (2, .int v2), (3, .int v3)] [] q := by
  unfold F7_rests at h
  refine sx_aload_n dX7_rests_0 rfl rfl ?_
  refine sx_iconst (v := (0 : Int32)) dX7_rests_1 (by decide) ?_
  obtain ⟨q1, eq1, h⟩ := sx_lt h
  refine sx_putI dX7_rests_2 (hs := shM_0) (k9 := 0) (hf := rfl) cb_X7 ⟨by decide, rfl, gw_799⟩ rfl (by decide) ?_
  refine sx_nmQ eq1 ?_
  refine sx_iload_n dX7_rests_5 rfl rfl ?_
  refine sx_iconst (v := (1 : Int32)) dX7_rests_6 (by decide) ?_
  refine sx_sipush (v := (999 : Int32)) dX7_rests_7 (by decide) ?_
  obtain ⟨z2, hz2, h⟩ := sx_bd h
  refine sx_callS (As := [.int v1, .int (1 : Int32), .int (999 : Int32)]) (rest := []) KSM (F7_in_ck l  v1 (1 : Int32) (999 : Int32) q1 hz2) mi_X7_in gw_865 rfl gw_866 ⟨Nat.le_of_ble_eq_true rfl, Nat.le_of_ble_eq_true rfl⟩ (Nat.le_of_ble_eq_true rfl) dX7_rests_10 rfl ?_
  refine sx_if_eq (tgt := 35) dX7_rests_13 (by decide) (fun c9 => ?_) (fun c9 => ?_)
  · replace h := sx_ip h c9
    refine sx_locs [] rfl ?_
    exact F7_rests_35_ok l   z2.2 h hk9
  · replace h := sx_in h c9
    refine sx_iload_n dX7_rests_16 rfl rfl ?_
    refine sx_iconst (v := (0 : Int32)) dX7_rests_17 (by decide) ?_
    refine sx_bipush (v := (99 : Int32)) dX7_rests_18 (by decide) ?_
    obtain ⟨z3, hz3, h⟩ := sx_bd h
    refine sx_callS (As := [.int v2, .int (0 : Int32), .int (99 : Int32)]) (rest := []) KSM (F7_in_ck l  v2 (0 : Int32) (99 : Int32) z2.2 hz3) mi_X7_in gw_865 rfl gw_866 ⟨Nat.le_of_ble_eq_true rfl, Nat.le_of_ble_eq_true rfl⟩ (Nat.le_of_ble_eq_true rfl) dX7_rests_20 rfl ?_
    refine sx_if_eq (tgt := 35) dX7_rests_23 (by decide) (fun c9 => ?_) (fun c9 => ?_)
    · replace h := sx_ip h c9
      refine sx_locs [] rfl ?_
      exact F7_rests_35_ok l   z3.2 h hk9
    · replace h := sx_in h c9
      refine sx_iload_n dX7_rests_26 rfl rfl ?_
      refine sx_iconst (v := (0 : Int32)) dX7_rests_27 (by decide) ?_
      refine sx_iconst (v := (1 : Int32)) dX7_rests_28 (by decide) ?_
      obtain ⟨z4, hz4, h⟩ := sx_bd h
      refine sx_callS (As := [.int v3, .int (0 : Int32), .int (1 : Int32)]) (rest := []) KSM (F7_in_ck l  v3 (0 : Int32) (1 : Int32) z3.2 hz4) mi_X7_in gw_865 rfl gw_866 ⟨Nat.le_of_ble_eq_true rfl, Nat.le_of_ble_eq_true rfl⟩ (Nat.le_of_ble_eq_true rfl) dX7_rests_29 rfl ?_
      refine sx_if_ne (tgt := 37) dX7_rests_32 (by decide) (fun c9 => ?_) (fun c9 => ?_)
      · replace h := sx_in h c9
        refine sx_aload_n dX7_rests_37 rfl rfl ?_
        refine sx_getR dX7_rests_38 (hs := shM_0) (k9 := 9) (hf := rfl) cb_X7 ⟨by decide, rfl, gw_808⟩ ?_
        refine sx_bipush (v := (41 : Int32)) dX7_rests_41 (by decide) ?_
        refine sx_ialdC (j9 := 41) dX7_rests_43 shM_2 (fun _ _ => rfl) (by decide) (by decide) ?_
        refine sx_if_ne (tgt := 50) dX7_rests_44 (by decide) (fun c9 => ?_) (fun c9 => ?_)
        · replace h := sx_in h c9
          refine sx_iconst (v := (0 : Int32)) dX7_rests_50 (by decide) ?_
          refine sx_istore (ls2 := [(4, .int (0 : Int32)), (0, .ref 0), (1, .int v1), (2, .int v2), (3, .int v3)]) dX7_rests_51 (by decide) rfl ?_
          refine sx_bipush (v := (-9 : Int32)) dX7_rests_53 (by decide) ?_
          refine sx_istore (ls2 := [(5, .int (-9 : Int32)), (4, .int (0 : Int32)), (0, .ref 0), (1, .int v1), (2, .int v2), (3, .int v3)]) dX7_rests_55 (by decide) rfl ?_
          refine sx_iconst (v := (0 : Int32)) dX7_rests_57 (by decide) ?_
          refine sx_istore (ls2 := [(6, .int (0 : Int32)), (5, .int (-9 : Int32)), (4, .int (0 : Int32)), (0, .ref 0), (1, .int v1), (2, .int v2), (3, .int v3)]) dX7_rests_58 (by decide) rfl ?_
          refine sx_locs [3, 4, 5, 6, 2, 1, 0] rfl ?_
          exact F7_rests_60_ok l  v1 v2 v3 (0 : Int32) (-9 : Int32) (0 : Int32) z4.2 h hk9
        · replace h := sx_ip h c9
          refine sx_bipush (v := (-2 : Int32)) dX7_rests_47 (by decide) ?_
          obtain rfl := Option.some.inj h
          exact sx_iret dX7_rests_49 rfl hk9
      · replace h := sx_ip h c9
        refine sx_locs [] rfl ?_
        exact F7_rests_35_ok l   z4.2 h hk9
theorem F7_rests_ck (l : Launch)  (v1 : Int32) (v2 : Int32) (v3 : Int32) (q : SQ) {r : Int32 × SQ} (h : F7_rests  v1 v2 v3 q = some r) : CK shM vwCl KM tfM l yX7_rests cX7_rests 9 ((some .int)) 7 169 [.ref 0, .int v1, .int v2, .int v3] q (some (.int r.1)) r.2 :=
  CK.of mi_X7_rests (Nat.le_of_ble_eq_true rfl) (F7_rests_ok l  v1 v2 v3 q h ⟨rfl, rfl⟩)
theorem mi_X7_blamed : sx_MI yX7_blamed cX7_blamed 5 ((some .int)) 2 := ⟨by decide, ⟨by decide, by decide, by decide +kernel⟩, gw_1060, gw_68⟩
abbrev PF7_blamed (l : Launch) (Q : Option Value → SQ → Prop) : Nat → List (Nat × Value) → List Value → SQ → Prop := XX shM vwCl KM tfM l RX7 cX7_blamed 5 ((some .int)) { frames := 6, cells := 0, slots := 0, locals := 144 } Q
def F7_blamed_35   (q : SQ) : Option (Int32 × SQ) :=
  some ((-1 : Int32), q)
set_option maxHeartbeats 400000 in
theorem F7_blamed_35_ok (l : Launch)  {Q : Option Value → SQ → Prop}  (q : SQ) {res : Int32 × SQ} (h : F7_blamed_35   q = some res) (hk9 : Q (some (.int res.1)) res.2) : PF7_blamed l Q 35 [] [] q := by
  unfold F7_blamed_35 at h
  refine sx_iconst (v := (-1 : Int32)) dX7_blamed_35 (by decide) ?_
  obtain rfl := Option.some.inj h
  exact sx_iret dX7_blamed_36 rfl hk9
def F7_blamed_112   (q : SQ) : Option (Int32 × SQ) :=
  some ((-9 : Int32), q)
set_option maxHeartbeats 400000 in
theorem F7_blamed_112_ok (l : Launch)  {Q : Option Value → SQ → Prop}  (q : SQ) {res : Int32 × SQ} (h : F7_blamed_112   q = some res) (hk9 : Q (some (.int res.1)) res.2) : PF7_blamed l Q 112 [] [] q := by
  unfold F7_blamed_112 at h
  refine sx_bipush (v := (-9 : Int32)) dX7_blamed_112 (by decide) ?_
  obtain rfl := Option.some.inj h
  exact sx_iret dX7_blamed_114 rfl hk9
def F7_blamed_106  (v1 : Int32) (v2 : Int32) (v3 : Int32) (v4 : Int32) (q : SQ) : Option ((Int32 × SQ) ⊕ (Int32 × SQ)) :=
  sx_let (v4 + (1 : Int32)) (fun x6 => some (.inl (x6, q)))
set_option maxHeartbeats 400000 in
theorem F7_blamed_106_ok (l : Launch)  {Q : Option Value → SQ → Prop} (v1 : Int32) (v2 : Int32) (v3 : Int32) (v4 : Int32) (q : SQ) {res : (Int32 × SQ) ⊕ (Int32 × SQ)} (h : F7_blamed_106  v1 v2 v3 v4 q = some res) (hk9 : (∀ a7, res = .inl a7 → PF7_blamed l Q 59 [(0, .ref 0), (1, .int v1), (2, .int v2), (3, .int v3), (4, .int a7.1)] [] a7.2) ∧ (∀ b8, res = .inr b8 → Q (some (.int b8.1)) b8.2)) : PF7_blamed l Q 106 [(0, .ref 0), (1, .int v1), (2, .int v2), (3, .int v3), (4, .int v4)] [] q := by
  unfold F7_blamed_106 at h
  obtain ⟨x6, ex6, h⟩ := sx_lt h
  refine sx_iinc (k9 := 4) (v := x6) (ls2 := [(4, .int x6), (0, .ref 0), (1, .int v1), (2, .int v2), (3, .int v3)]) dX7_blamed_106 rfl (by rw [ex6, sx_ofI1]) (by decide) rfl ?_
  refine sx_goto (tgt := 59) dX7_blamed_109 (by decide) ?_
  refine sx_locs [1, 2, 3, 4, 0] rfl ?_
  exact hk9.1 (x6, q) (Option.some.inj h).symm
def F7_blamed_59b  (v1 : Int32) (v2 : Int32) (v3 : Int32) (v4 : Int32) (q : SQ) : Option ((Int32 × SQ) ⊕ (Int32 × SQ)) :=
  (if gI q 2 40 ≤ v4 then (F7_blamed_112   q).map .inr else (if v1 ≤ v3 then (F7_blamed_112   q).map .inr else (if (v2 >>> (v4 &&& 31)) &&& (1 : Int32) = 0 then (F7_jarSort  v4 q).bind (fun z9 => (F7_pagesOf  v4 z9.1 z9.2).bind (fun z10 => (if v3 + z10.1 < v1 then F7_blamed_106  v1 v2 v3 v4 z10.2 else some (.inr (v4, z10.2))))) else F7_blamed_106  v1 v2 v3 v4 q)))
set_option maxHeartbeats 400000 in
theorem F7_blamed_59b_ok (l : Launch)  {Q : Option Value → SQ → Prop} (v1 : Int32) (v2 : Int32) (v3 : Int32) (v4 : Int32) (q : SQ) {res : (Int32 × SQ) ⊕ (Int32 × SQ)} (h : F7_blamed_59b  v1 v2 v3 v4 q = some res) (hk9 : (∀ a11, res = .inl a11 → PF7_blamed l Q 59 [(0, .ref 0), (1, .int v1), (2, .int v2), (3, .int v3), (4, .int a11.1)] [] a11.2) ∧ (∀ b12, res = .inr b12 → Q (some (.int b12.1)) b12.2)) : PF7_blamed l Q 59 [(0, .ref 0), (1, .int v1), (2, .int v2), (3, .int v3), (4, .int v4)] [] q := by
  unfold F7_blamed_59b at h
  refine sx_iload dX7_blamed_59 rfl ?_
  refine sx_aload_n dX7_blamed_61 rfl rfl ?_
  refine sx_getR dX7_blamed_62 (hs := shM_0) (k9 := 9) (hf := rfl) cb_X7 ⟨by decide, rfl, gw_808⟩ ?_
  refine sx_bipush (v := (40 : Int32)) dX7_blamed_65 (by decide) ?_
  refine sx_ialdC (j9 := 40) dX7_blamed_67 shM_2 (fun _ _ => rfl) (by decide) (by decide) ?_
  refine sx_icmp_ge (tgt := 112) dX7_blamed_68 (by decide) (fun c9 => ?_) (fun c9 => ?_)
  · replace h := sx_ip h c9
    obtain ⟨t9, h, hr9⟩ := sx_mp h
    have hk9 := hk9.2 _ hr9
    refine sx_locs [] rfl ?_
    exact F7_blamed_112_ok l   q h hk9
  · replace h := sx_in h c9
    refine sx_iload_n dX7_blamed_71 rfl rfl ?_
    refine sx_iload_n dX7_blamed_72 rfl rfl ?_
    refine sx_icmp_ge (tgt := 112) dX7_blamed_73 (by decide) (fun c9 => ?_) (fun c9 => ?_)
    · replace h := sx_ip h c9
      obtain ⟨t9, h, hr9⟩ := sx_mp h
      have hk9 := hk9.2 _ hr9
      refine sx_locs [] rfl ?_
      exact F7_blamed_112_ok l   q h hk9
    · replace h := sx_in h c9
      refine sx_iload_n dX7_blamed_76 rfl rfl ?_
      refine sx_iload dX7_blamed_77 rfl ?_
      refine sx_ishr dX7_blamed_79 ?_
      refine sx_iconst (v := (1 : Int32)) dX7_blamed_80 (by decide) ?_
      refine sx_iand dX7_blamed_81 ?_
      refine sx_if_ne (tgt := 106) dX7_blamed_82 (by decide) (fun c9 => ?_) (fun c9 => ?_)
      · replace h := sx_in h c9
        exact F7_blamed_106_ok l  v1 v2 v3 v4 q h hk9
      · replace h := sx_ip h c9
        refine sx_iload_n dX7_blamed_85 rfl rfl ?_
        refine sx_aload_n dX7_blamed_86 rfl rfl ?_
        refine sx_iload dX7_blamed_87 rfl ?_
        refine sx_aload_n dX7_blamed_89 rfl rfl ?_
        refine sx_iload dX7_blamed_90 rfl ?_
        obtain ⟨z9, hz9, h⟩ := sx_bd h
        refine sx_callV (o := 0) (As := [.int v4]) (rest := [.int v4, .ref 0, .int v3]) KSM (F7_jarSort_ck l  v4 q hz9) mi_X7_jarSort gw_1049 rfl ⟨gw_1051, gw_54⟩ shM_0 rfl rfl ⟨Nat.le_of_ble_eq_true rfl, Nat.le_of_ble_eq_true rfl⟩ (Nat.le_of_ble_eq_true rfl) dX7_blamed_92 rfl ?_
        obtain ⟨z10, hz10, h⟩ := sx_bd h
        refine sx_callV (o := 0) (As := [.int v4, .int z9.1]) (rest := [.int v3]) KSM (F7_pagesOf_ck l  v4 z9.1 z9.2 hz10) mi_X7_pagesOf gw_954 rfl ⟨gw_956, gw_43⟩ shM_0 rfl rfl ⟨Nat.le_of_ble_eq_true rfl, Nat.le_of_ble_eq_true rfl⟩ (Nat.le_of_ble_eq_true rfl) dX7_blamed_95 rfl ?_
        refine sx_iadd dX7_blamed_98 ?_
        refine sx_iload_n dX7_blamed_99 rfl rfl ?_
        refine sx_icmp_lt (tgt := 106) dX7_blamed_100 (by decide) (fun c9 => ?_) (fun c9 => ?_)
        · replace h := sx_ip h c9
          exact F7_blamed_106_ok l  v1 v2 v3 v4 z10.2 h hk9
        · replace h := sx_in h c9
          refine sx_iload dX7_blamed_103 rfl ?_
          have hk9 := hk9.2 _ (Option.some.inj h).symm
          exact sx_iret dX7_blamed_105 rfl hk9
def F7_blamed_59  (v1 : Int32) (v2 : Int32) (v3 : Int32) (v4 : Int32) (q : SQ) : Option (Int32 × SQ) := sx_loop (fun s13 => F7_blamed_59b  v1 v2 v3 s13.1 s13.2) FU (v4, q)
set_option maxHeartbeats 400000 in
theorem F7_blamed_59_ok (l : Launch)  {Q : Option Value → SQ → Prop} (v1 : Int32) (v2 : Int32) (v3 : Int32) (v4 : Int32) (q : SQ) {t : Int32 × SQ} (h : F7_blamed_59  v1 v2 v3 v4 q = some t) (hk9 : Q (some (.int t.1)) t.2) : PF7_blamed l Q 59 [(0, .ref 0), (1, .int v1), (2, .int v2), (3, .int v3), (4, .int v4)] [] q := by
  unfold F7_blamed_59 at h
  have st : ∀ (s : Int32 × SQ) (res : (Int32 × SQ) ⊕ (Int32 × SQ)), F7_blamed_59b  v1 v2 v3 s.1 s.2 = some res → (∀ s2, res = .inl s2 → PF7_blamed l Q 59 [(0, .ref 0), (1, .int v1), (2, .int v2), (3, .int v3), (4, .int s2.1)] [] s2.2) → (∀ t2, res = .inr t2 → Q (some (.int t2.1)) t2.2) → PF7_blamed l Q 59 [(0, .ref 0), (1, .int v1), (2, .int v2), (3, .int v3), (4, .int s.1)] [] s.2 :=
    fun s res hb hi ho => F7_blamed_59b_ok l  v1 v2 v3 s.1 s.2 hb ⟨hi, ho⟩
  have h9 : PF7_blamed l Q 59 [(0, .ref 0), (1, .int v1), (2, .int v2), (3, .int v3), (4, .int v4)] [] q := sx_lp (body := fun s => F7_blamed_59b  v1 v2 v3 s.1 s.2) (P := fun s => PF7_blamed l Q 59 [(0, .ref 0), (1, .int v1), (2, .int v2), (3, .int v3), (4, .int s.1)] [] s.2) (T := fun t => Q (some (.int t.1)) t.2) st FU (v4, q) t h hk9
  exact h9
def F7_blamed  (v1 : Int32) (v2 : Int32) (q : SQ) : Option (Int32 × SQ) :=
  sx_let (sI q 0 0 (0 : Int32)) (fun q1 => (F7_in  v1 (1 : Int32) (999 : Int32) q1).bind (fun z2 => (if z2.1 = 0 then F7_blamed_35   z2.2 else (F7_in  v2 (0 : Int32) (((1 : Int32) <<< (gI z2.2 2 40 &&& 31)) - (1 : Int32)) z2.2).bind (fun z3 => (if z3.1 = 0 then F7_blamed_35   z3.2 else (if gI z3.2 2 41 = 0 then some ((-2 : Int32), z3.2) else (F7_jarPages  v2 z3.2).bind (fun z4 => sx_let z4.1 (fun x5 => F7_blamed_59  v1 v2 x5 (0 : Int32) z4.2))))))))
set_option maxHeartbeats 400000 in
theorem F7_blamed_ok (l : Launch)  {Q : Option Value → SQ → Prop} (v1 : Int32) (v2 : Int32) (q : SQ) {res : Int32 × SQ} (h : F7_blamed  v1 v2 q = some res) (hk9 : Q (some (.int res.1)) res.2) : PF7_blamed l Q 0 [(0, .ref 0), (1, .int v1), (2, .int v2)] [] q := by
  unfold F7_blamed at h
  refine sx_aload_n dX7_blamed_0 rfl rfl ?_
  refine sx_iconst (v := (0 : Int32)) dX7_blamed_1 (by decide) ?_
  obtain ⟨q1, eq1, h⟩ := sx_lt h
  refine sx_putI dX7_blamed_2 (hs := shM_0) (k9 := 0) (hf := rfl) cb_X7 ⟨by decide, rfl, gw_799⟩ rfl (by decide) ?_
  refine sx_nmQ eq1 ?_
  refine sx_iload_n dX7_blamed_5 rfl rfl ?_
  refine sx_iconst (v := (1 : Int32)) dX7_blamed_6 (by decide) ?_
  refine sx_sipush (v := (999 : Int32)) dX7_blamed_7 (by decide) ?_
  obtain ⟨z2, hz2, h⟩ := sx_bd h
  refine sx_callS (As := [.int v1, .int (1 : Int32), .int (999 : Int32)]) (rest := []) KSM (F7_in_ck l  v1 (1 : Int32) (999 : Int32) q1 hz2) mi_X7_in gw_865 rfl gw_866 ⟨Nat.le_of_ble_eq_true rfl, Nat.le_of_ble_eq_true rfl⟩ (Nat.le_of_ble_eq_true rfl) dX7_blamed_10 rfl ?_
  refine sx_if_eq (tgt := 35) dX7_blamed_13 (by decide) (fun c9 => ?_) (fun c9 => ?_)
  · replace h := sx_ip h c9
    refine sx_locs [] rfl ?_
    exact F7_blamed_35_ok l   z2.2 h hk9
  · replace h := sx_in h c9
    refine sx_iload_n dX7_blamed_16 rfl rfl ?_
    refine sx_iconst (v := (0 : Int32)) dX7_blamed_17 (by decide) ?_
    refine sx_iconst (v := (1 : Int32)) dX7_blamed_18 (by decide) ?_
    refine sx_aload_n dX7_blamed_19 rfl rfl ?_
    refine sx_getR dX7_blamed_20 (hs := shM_0) (k9 := 9) (hf := rfl) cb_X7 ⟨by decide, rfl, gw_808⟩ ?_
    refine sx_bipush (v := (40 : Int32)) dX7_blamed_23 (by decide) ?_
    refine sx_ialdC (j9 := 40) dX7_blamed_25 shM_2 (fun _ _ => rfl) (by decide) (by decide) ?_
    refine sx_ishl dX7_blamed_26 ?_
    refine sx_iconst (v := (1 : Int32)) dX7_blamed_27 (by decide) ?_
    refine sx_isub dX7_blamed_28 ?_
    obtain ⟨z3, hz3, h⟩ := sx_bd h
    refine sx_callS (As := [.int v2, .int (0 : Int32), .int (((1 : Int32) <<< (gI z2.2 2 40 &&& 31)) - (1 : Int32))]) (rest := []) KSM (F7_in_ck l  v2 (0 : Int32) (((1 : Int32) <<< (gI z2.2 2 40 &&& 31)) - (1 : Int32)) z2.2 hz3) mi_X7_in gw_865 rfl gw_866 ⟨Nat.le_of_ble_eq_true rfl, Nat.le_of_ble_eq_true rfl⟩ (Nat.le_of_ble_eq_true rfl) dX7_blamed_29 rfl ?_
    refine sx_if_ne (tgt := 37) dX7_blamed_32 (by decide) (fun c9 => ?_) (fun c9 => ?_)
    · replace h := sx_in h c9
      refine sx_aload_n dX7_blamed_37 rfl rfl ?_
      refine sx_getR dX7_blamed_38 (hs := shM_0) (k9 := 9) (hf := rfl) cb_X7 ⟨by decide, rfl, gw_808⟩ ?_
      refine sx_bipush (v := (41 : Int32)) dX7_blamed_41 (by decide) ?_
      refine sx_ialdC (j9 := 41) dX7_blamed_43 shM_2 (fun _ _ => rfl) (by decide) (by decide) ?_
      refine sx_if_ne (tgt := 50) dX7_blamed_44 (by decide) (fun c9 => ?_) (fun c9 => ?_)
      · replace h := sx_in h c9
        refine sx_aload_n dX7_blamed_50 rfl rfl ?_
        refine sx_iload_n dX7_blamed_51 rfl rfl ?_
        obtain ⟨z4, hz4, h⟩ := sx_bd h
        refine sx_callV (o := 0) (As := [.int v2]) (rest := []) KSM (F7_jarPages_ck l  v2 z3.2 hz4) mi_X7_jarPages gw_1053 rfl ⟨gw_1055, gw_55⟩ shM_0 rfl rfl ⟨Nat.le_of_ble_eq_true rfl, Nat.le_of_ble_eq_true rfl⟩ (Nat.le_of_ble_eq_true rfl) dX7_blamed_52 rfl ?_
        obtain ⟨x5, ex5, h⟩ := sx_lt h
        refine sx_nmI ex5 ?_
        refine sx_istore_n (ls2 := [(3, .int x5), (0, .ref 0), (1, .int v1), (2, .int v2)]) dX7_blamed_55 rfl (by decide) rfl ?_
        refine sx_iconst (v := (0 : Int32)) dX7_blamed_56 (by decide) ?_
        refine sx_istore (ls2 := [(4, .int (0 : Int32)), (3, .int x5), (0, .ref 0), (1, .int v1), (2, .int v2)]) dX7_blamed_57 (by decide) rfl ?_
        refine sx_locs [2, 3, 4, 1, 0] rfl ?_
        exact F7_blamed_59_ok l  v1 v2 x5 (0 : Int32) z4.2 h hk9
      · replace h := sx_ip h c9
        refine sx_bipush (v := (-2 : Int32)) dX7_blamed_47 (by decide) ?_
        obtain rfl := Option.some.inj h
        exact sx_iret dX7_blamed_49 rfl hk9
    · replace h := sx_ip h c9
      refine sx_locs [] rfl ?_
      exact F7_blamed_35_ok l   z3.2 h hk9
theorem F7_blamed_ck (l : Launch)  (v1 : Int32) (v2 : Int32) (q : SQ) {r : Int32 × SQ} (h : F7_blamed  v1 v2 q = some r) : CK shM vwCl KM tfM l yX7_blamed cX7_blamed 5 ((some .int)) 6 144 [.ref 0, .int v1, .int v2] q (some (.int r.1)) r.2 :=
  CK.of mi_X7_blamed (Nat.le_of_ble_eq_true rfl) (F7_blamed_ok l  v1 v2 q h ⟨rfl, rfl⟩)
theorem mi_X7_checks : sx_MI yX7_checks cX7_checks 7 ((some .int)) 1 := ⟨by decide, ⟨by decide, by decide, by decide +kernel⟩, gw_1064, gw_68⟩
abbrev PF7_checks (l : Launch) (Q : Option Value → SQ → Prop) : Nat → List (Nat × Value) → List Value → SQ → Prop := XX shM vwCl KM tfM l RX7 cX7_checks 7 ((some .int)) { frames := 4, cells := 0, slots := 0, locals := 99 } Q
def F7_checks_116  (v1 : Int32) (v2 : Int32) (v4 : Int32) (s0 : Int32) (q : SQ) : Option ((Int32 × Int32 × SQ) ⊕ ((Int32 × SQ) ⊕ (Int32 × SQ))) :=
  sx_let (v4 + (1 : Int32)) (fun x8 => some (.inl (s0, x8, q)))
set_option maxHeartbeats 400000 in
theorem F7_checks_116_ok (l : Launch)  {Q : Option Value → SQ → Prop} (v1 : Int32) (v2 : Int32) (v4 : Int32) (s0 : Int32) (q : SQ) {res : (Int32 × Int32 × SQ) ⊕ ((Int32 × SQ) ⊕ (Int32 × SQ))} (h : F7_checks_116  v1 v2 v4 s0 q = some res) (hk9 : (∀ a9, res = .inl a9 → PF7_checks l Q 30 [(0, .ref 0), (1, .int v1), (2, .int v2), (3, .int a9.1), (4, .int a9.2.1)] [] a9.2.2) ∧ (∀ b10, res = .inr b10 → (∀ a11, b10 = .inl a11 → PF7_checks l Q 19 [(0, .ref 0), (1, .int v1), (2, .int a11.1)] [] a11.2) ∧ (∀ b12, b10 = .inr b12 → Q (some (.int b12.1)) b12.2))) : PF7_checks l Q 116 [(0, .ref 0), (1, .int v1), (2, .int v2), (4, .int v4)] [.int s0] q := by
  unfold F7_checks_116 at h
  refine sx_istore_n (ls2 := [(3, .int s0), (0, .ref 0), (1, .int v1), (2, .int v2), (4, .int v4)]) dX7_checks_116 rfl (by decide) rfl ?_
  obtain ⟨x8, ex8, h⟩ := sx_lt h
  refine sx_iinc (k9 := 4) (v := x8) (ls2 := [(4, .int x8), (3, .int s0), (0, .ref 0), (1, .int v1), (2, .int v2)]) dX7_checks_117 rfl (by rw [ex8, sx_ofI1]) (by decide) rfl ?_
  refine sx_goto (tgt := 30) dX7_checks_120 (by decide) ?_
  refine sx_locs [2, 3, 4, 1, 0] rfl ?_
  exact hk9.1 (s0, x8, q) (Option.some.inj h).symm
def F7_checks_115  (v1 : Int32) (v2 : Int32) (v4 : Int32) (q : SQ) : Option ((Int32 × Int32 × SQ) ⊕ ((Int32 × SQ) ⊕ (Int32 × SQ))) :=
  F7_checks_116  v1 v2 v4 (0 : Int32) q
set_option maxHeartbeats 400000 in
theorem F7_checks_115_ok (l : Launch)  {Q : Option Value → SQ → Prop} (v1 : Int32) (v2 : Int32) (v4 : Int32) (q : SQ) {res : (Int32 × Int32 × SQ) ⊕ ((Int32 × SQ) ⊕ (Int32 × SQ))} (h : F7_checks_115  v1 v2 v4 q = some res) (hk9 : (∀ a13, res = .inl a13 → PF7_checks l Q 30 [(0, .ref 0), (1, .int v1), (2, .int v2), (3, .int a13.1), (4, .int a13.2.1)] [] a13.2.2) ∧ (∀ b14, res = .inr b14 → (∀ a15, b14 = .inl a15 → PF7_checks l Q 19 [(0, .ref 0), (1, .int v1), (2, .int a15.1)] [] a15.2) ∧ (∀ b16, b14 = .inr b16 → Q (some (.int b16.1)) b16.2))) : PF7_checks l Q 115 [(0, .ref 0), (1, .int v1), (2, .int v2), (4, .int v4)] [] q := by
  unfold F7_checks_115 at h
  refine sx_iconst (v := (0 : Int32)) dX7_checks_115 (by decide) ?_
  exact F7_checks_116_ok l  v1 v2 v4 (0 : Int32) q h hk9
def F7_checks_92  (v1 : Int32) (v2 : Int32) (v3 : Int32) (v4 : Int32) (s0 : Int32) (q : SQ) : Option ((Int32 × Int32 × SQ) ⊕ ((Int32 × SQ) ⊕ (Int32 × SQ))) :=
  (if v3 = 0 then F7_checks_115  v1 v2 v4 q else (if v2 * v1 < ((10 : Int32) - v2) * s0 then F7_checks_115  v1 v2 v4 q else F7_checks_116  v1 v2 v4 (1 : Int32) q))
set_option maxHeartbeats 400000 in
theorem F7_checks_92_ok (l : Launch)  {Q : Option Value → SQ → Prop} (v1 : Int32) (v2 : Int32) (v3 : Int32) (v4 : Int32) (s0 : Int32) (q : SQ) {res : (Int32 × Int32 × SQ) ⊕ ((Int32 × SQ) ⊕ (Int32 × SQ))} (h : F7_checks_92  v1 v2 v3 v4 s0 q = some res) (hk9 : (∀ a17, res = .inl a17 → PF7_checks l Q 30 [(0, .ref 0), (1, .int v1), (2, .int v2), (3, .int a17.1), (4, .int a17.2.1)] [] a17.2.2) ∧ (∀ b18, res = .inr b18 → (∀ a19, b18 = .inl a19 → PF7_checks l Q 19 [(0, .ref 0), (1, .int v1), (2, .int a19.1)] [] a19.2) ∧ (∀ b20, b18 = .inr b20 → Q (some (.int b20.1)) b20.2))) : PF7_checks l Q 92 [(0, .ref 0), (1, .int v1), (2, .int v2), (3, .int v3), (4, .int v4)] [.int s0] q := by
  unfold F7_checks_92 at h
  refine sx_istore (ls2 := [(6, .int s0), (0, .ref 0), (1, .int v1), (2, .int v2), (3, .int v3), (4, .int v4)]) dX7_checks_92 (by decide) rfl ?_
  refine sx_iload_n dX7_checks_94 rfl rfl ?_
  refine sx_if_eq (tgt := 115) dX7_checks_95 (by decide) (fun c9 => ?_) (fun c9 => ?_)
  · replace h := sx_ip h c9
    refine sx_locs [1, 2, 3, 5] rfl ?_
    exact F7_checks_115_ok l  v1 v2 v4 q h hk9
  · replace h := sx_in h c9
    refine sx_iload_n dX7_checks_98 rfl rfl ?_
    refine sx_iload_n dX7_checks_99 rfl rfl ?_
    refine sx_imul dX7_checks_100 ?_
    refine sx_bipush (v := (10 : Int32)) dX7_checks_101 (by decide) ?_
    refine sx_iload_n dX7_checks_103 rfl rfl ?_
    refine sx_isub dX7_checks_104 ?_
    refine sx_iload dX7_checks_105 rfl ?_
    refine sx_imul dX7_checks_107 ?_
    refine sx_icmp_lt (tgt := 115) dX7_checks_108 (by decide) (fun c9 => ?_) (fun c9 => ?_)
    · replace h := sx_ip h c9
      refine sx_locs [1, 2, 3, 5] rfl ?_
      exact F7_checks_115_ok l  v1 v2 v4 q h hk9
    · replace h := sx_in h c9
      refine sx_iconst (v := (1 : Int32)) dX7_checks_111 (by decide) ?_
      refine sx_goto (tgt := 116) dX7_checks_112 (by decide) ?_
      refine sx_locs [1, 2, 3, 5] rfl ?_
      exact F7_checks_116_ok l  v1 v2 v4 (1 : Int32) q h hk9
def F7_checks_30b  (v1 : Int32) (v2 : Int32) (v3 : Int32) (v4 : Int32) (q : SQ) : Option ((Int32 × Int32 × SQ) ⊕ ((Int32 × SQ) ⊕ (Int32 × SQ))) :=
  (if gI q 2 40 ≤ v4 then (if v3 = 0 then sx_let (v2 + (1 : Int32)) (fun x3 => some (.inr (.inl (x3, q)))) else some (.inr (.inr (v2, q)))) else (F7_choiceOf 4 v4 (gI q 4 0) q).bind (fun z4 => sx_let z4.1 (fun x5 => (if x5 = (-9 : Int32) then F7_checks_92  v1 v2 v3 v4 (0 : Int32) z4.2 else (F7_pagesOf  v4 x5 z4.2).bind (fun z6 => (F7_givenOf  x5 (gI z6.2 4 0) z6.2).bind (fun z7 => F7_checks_92  v1 v2 v3 v4 (z6.1 * z7.1) z7.2))))))
set_option maxHeartbeats 400000 in
theorem F7_checks_30b_ok (l : Launch)  {Q : Option Value → SQ → Prop} (v1 : Int32) (v2 : Int32) (v3 : Int32) (v4 : Int32) (q : SQ) {res : (Int32 × Int32 × SQ) ⊕ ((Int32 × SQ) ⊕ (Int32 × SQ))} (h : F7_checks_30b  v1 v2 v3 v4 q = some res) (hk9 : (∀ a21, res = .inl a21 → PF7_checks l Q 30 [(0, .ref 0), (1, .int v1), (2, .int v2), (3, .int a21.1), (4, .int a21.2.1)] [] a21.2.2) ∧ (∀ b22, res = .inr b22 → (∀ a23, b22 = .inl a23 → PF7_checks l Q 19 [(0, .ref 0), (1, .int v1), (2, .int a23.1)] [] a23.2) ∧ (∀ b24, b22 = .inr b24 → Q (some (.int b24.1)) b24.2))) : PF7_checks l Q 30 [(0, .ref 0), (1, .int v1), (2, .int v2), (3, .int v3), (4, .int v4)] [] q := by
  unfold F7_checks_30b at h
  refine sx_iload dX7_checks_30 rfl ?_
  refine sx_aload_n dX7_checks_32 rfl rfl ?_
  refine sx_getR dX7_checks_33 (hs := shM_0) (k9 := 9) (hf := rfl) cb_X7 ⟨by decide, rfl, gw_808⟩ ?_
  refine sx_bipush (v := (40 : Int32)) dX7_checks_36 (by decide) ?_
  refine sx_ialdC (j9 := 40) dX7_checks_38 shM_2 (fun _ _ => rfl) (by decide) (by decide) ?_
  refine sx_icmp_ge (tgt := 123) dX7_checks_39 (by decide) (fun c9 => ?_) (fun c9 => ?_)
  · replace h := sx_ip h c9
    refine sx_iload_n dX7_checks_123 rfl rfl ?_
    refine sx_if_eq (tgt := 129) dX7_checks_124 (by decide) (fun c9 => ?_) (fun c9 => ?_)
    · replace h := sx_ip h c9
      obtain ⟨x3, ex3, h⟩ := sx_lt h
      refine sx_iinc (k9 := 2) (v := x3) (ls2 := [(2, .int x3), (0, .ref 0), (1, .int v1), (3, .int v3), (4, .int v4)]) dX7_checks_129 rfl (by rw [ex3, sx_ofI1]) (by decide) rfl ?_
      refine sx_goto (tgt := 19) dX7_checks_132 (by decide) ?_
      have hk9 := hk9.2 _ (Option.some.inj h).symm
      have h : (some (.inl (x3, q)) : Option ((Int32 × SQ) ⊕ (Int32 × SQ))) = some (.inl (x3, q)) := rfl
      refine sx_locs [1, 2, 0] rfl ?_
      exact hk9.1 (x3, q) (Option.some.inj h).symm
    · replace h := sx_in h c9
      refine sx_iload_n dX7_checks_127 rfl rfl ?_
      have hk9 := hk9.2 _ (Option.some.inj h).symm
      have hk9 := hk9.2 _ rfl
      exact sx_iret dX7_checks_128 rfl hk9
  · replace h := sx_in h c9
    refine sx_aload_n dX7_checks_42 rfl rfl ?_
    refine sx_aload_n dX7_checks_43 rfl rfl ?_
    refine sx_getR dX7_checks_44 (hs := shM_0) (k9 := 11) (hf := rfl) cb_X7 ⟨by decide, rfl, gw_810⟩ ?_
    refine sx_iload dX7_checks_47 rfl ?_
    refine sx_aload_n dX7_checks_49 rfl rfl ?_
    refine sx_getR dX7_checks_50 (hs := shM_0) (k9 := 11) (hf := rfl) cb_X7 ⟨by decide, rfl, gw_810⟩ ?_
    refine sx_iconst (v := (0 : Int32)) dX7_checks_53 (by decide) ?_
    refine sx_ialdC (j9 := 0) dX7_checks_54 shM_4 (fun _ _ => rfl) (by decide) (by decide) ?_
    obtain ⟨z4, hz4, h⟩ := sx_bd h
    refine sx_callV (o := 0) (As := [.ref 4, .int v4, .int (gI q 4 0)]) (rest := []) KSM (F7_choiceOf_ck l 4 shM_4 v4 (gI q 4 0) q hz4) mi_X7_choiceOf gw_974 rfl ⟨gw_976, gw_47⟩ shM_0 rfl rfl ⟨Nat.le_of_ble_eq_true rfl, Nat.le_of_ble_eq_true rfl⟩ (Nat.le_of_ble_eq_true rfl) dX7_checks_55 rfl ?_
    obtain ⟨x5, ex5, h⟩ := sx_lt h
    refine sx_nmI ex5 ?_
    refine sx_istore (ls2 := [(5, .int x5), (0, .ref 0), (1, .int v1), (2, .int v2), (3, .int v3), (4, .int v4)]) dX7_checks_58 (by decide) rfl ?_
    refine sx_iload dX7_checks_60 rfl ?_
    refine sx_bipush (v := (-9 : Int32)) dX7_checks_62 (by decide) ?_
    refine sx_icmp_ne (tgt := 71) dX7_checks_64 (by decide) (fun c9 => ?_) (fun c9 => ?_)
    · replace h := sx_in h c9
      refine sx_aload_n dX7_checks_71 rfl rfl ?_
      refine sx_iload dX7_checks_72 rfl ?_
      refine sx_iload dX7_checks_74 rfl ?_
      obtain ⟨z6, hz6, h⟩ := sx_bd h
      refine sx_callV (o := 0) (As := [.int v4, .int x5]) (rest := []) KSM (F7_pagesOf_ck l  v4 x5 z4.2 hz6) mi_X7_pagesOf gw_954 rfl ⟨gw_956, gw_43⟩ shM_0 rfl rfl ⟨Nat.le_of_ble_eq_true rfl, Nat.le_of_ble_eq_true rfl⟩ (Nat.le_of_ble_eq_true rfl) dX7_checks_76 rfl ?_
      refine sx_aload_n dX7_checks_79 rfl rfl ?_
      refine sx_iload dX7_checks_80 rfl ?_
      refine sx_aload_n dX7_checks_82 rfl rfl ?_
      refine sx_getR dX7_checks_83 (hs := shM_0) (k9 := 11) (hf := rfl) cb_X7 ⟨by decide, rfl, gw_810⟩ ?_
      refine sx_iconst (v := (0 : Int32)) dX7_checks_86 (by decide) ?_
      refine sx_ialdC (j9 := 0) dX7_checks_87 shM_4 (fun _ _ => rfl) (by decide) (by decide) ?_
      obtain ⟨z7, hz7, h⟩ := sx_bd h
      refine sx_callV (o := 0) (As := [.int x5, .int (gI z6.2 4 0)]) (rest := [.int z6.1]) KSM (F7_givenOf_ck l  x5 (gI z6.2 4 0) z6.2 hz7) mi_X7_givenOf gw_946 rfl ⟨gw_948, gw_42⟩ shM_0 rfl rfl ⟨Nat.le_of_ble_eq_true rfl, Nat.le_of_ble_eq_true rfl⟩ (Nat.le_of_ble_eq_true rfl) dX7_checks_88 rfl ?_
      refine sx_imul dX7_checks_91 ?_
      refine sx_locs [1, 2, 3, 4, 5] rfl ?_
      exact F7_checks_92_ok l  v1 v2 v3 v4 (z6.1 * z7.1) z7.2 h hk9
    · replace h := sx_ip h c9
      refine sx_iconst (v := (0 : Int32)) dX7_checks_67 (by decide) ?_
      refine sx_goto (tgt := 92) dX7_checks_68 (by decide) ?_
      refine sx_locs [1, 2, 3, 4, 5] rfl ?_
      exact F7_checks_92_ok l  v1 v2 v3 v4 (0 : Int32) z4.2 h hk9
def F7_checks_30  (v1 : Int32) (v2 : Int32) (v3 : Int32) (v4 : Int32) (q : SQ) : Option ((Int32 × SQ) ⊕ (Int32 × SQ)) := sx_loop (fun s25 => F7_checks_30b  v1 v2 s25.1 s25.2.1 s25.2.2) FU (v3, v4, q)
set_option maxHeartbeats 400000 in
theorem F7_checks_30_ok (l : Launch)  {Q : Option Value → SQ → Prop} (v1 : Int32) (v2 : Int32) (v3 : Int32) (v4 : Int32) (q : SQ) {t : (Int32 × SQ) ⊕ (Int32 × SQ)} (h : F7_checks_30  v1 v2 v3 v4 q = some t) (hk9 : (∀ a26, t = .inl a26 → PF7_checks l Q 19 [(0, .ref 0), (1, .int v1), (2, .int a26.1)] [] a26.2) ∧ (∀ b27, t = .inr b27 → Q (some (.int b27.1)) b27.2)) : PF7_checks l Q 30 [(0, .ref 0), (1, .int v1), (2, .int v2), (3, .int v3), (4, .int v4)] [] q := by
  unfold F7_checks_30 at h
  have st : ∀ (s : Int32 × Int32 × SQ) (res : (Int32 × Int32 × SQ) ⊕ ((Int32 × SQ) ⊕ (Int32 × SQ))), F7_checks_30b  v1 v2 s.1 s.2.1 s.2.2 = some res → (∀ s2, res = .inl s2 → PF7_checks l Q 30 [(0, .ref 0), (1, .int v1), (2, .int v2), (3, .int s2.1), (4, .int s2.2.1)] [] s2.2.2) → (∀ t2, res = .inr t2 → (∀ a28, t2 = .inl a28 → PF7_checks l Q 19 [(0, .ref 0), (1, .int v1), (2, .int a28.1)] [] a28.2) ∧ (∀ b29, t2 = .inr b29 → Q (some (.int b29.1)) b29.2)) → PF7_checks l Q 30 [(0, .ref 0), (1, .int v1), (2, .int v2), (3, .int s.1), (4, .int s.2.1)] [] s.2.2 :=
    fun s res hb hi ho => F7_checks_30b_ok l  v1 v2 s.1 s.2.1 s.2.2 hb ⟨hi, ho⟩
  have h9 : PF7_checks l Q 30 [(0, .ref 0), (1, .int v1), (2, .int v2), (3, .int v3), (4, .int v4)] [] q := sx_lp (body := fun s => F7_checks_30b  v1 v2 s.1 s.2.1 s.2.2) (P := fun s => PF7_checks l Q 30 [(0, .ref 0), (1, .int v1), (2, .int v2), (3, .int s.1), (4, .int s.2.1)] [] s.2.2) (T := fun t => (∀ a30, t = .inl a30 → PF7_checks l Q 19 [(0, .ref 0), (1, .int v1), (2, .int a30.1)] [] a30.2) ∧ (∀ b31, t = .inr b31 → Q (some (.int b31.1)) b31.2)) st FU (v3, v4, q) t h hk9
  exact h9
def F7_checks_19b  (v1 : Int32) (v2 : Int32) (q : SQ) : Option ((Int32 × SQ) ⊕ (Int32 × SQ)) :=
  (if (11 : Int32) ≤ v2 then some (.inr ((-9 : Int32), q)) else F7_checks_30  v1 v2 (1 : Int32) (0 : Int32) q)
set_option maxHeartbeats 400000 in
theorem F7_checks_19b_ok (l : Launch)  {Q : Option Value → SQ → Prop} (v1 : Int32) (v2 : Int32) (q : SQ) {res : (Int32 × SQ) ⊕ (Int32 × SQ)} (h : F7_checks_19b  v1 v2 q = some res) (hk9 : (∀ a32, res = .inl a32 → PF7_checks l Q 19 [(0, .ref 0), (1, .int v1), (2, .int a32.1)] [] a32.2) ∧ (∀ b33, res = .inr b33 → Q (some (.int b33.1)) b33.2)) : PF7_checks l Q 19 [(0, .ref 0), (1, .int v1), (2, .int v2)] [] q := by
  unfold F7_checks_19b at h
  refine sx_iload_n dX7_checks_19 rfl rfl ?_
  refine sx_bipush (v := (11 : Int32)) dX7_checks_20 (by decide) ?_
  refine sx_icmp_ge (tgt := 135) dX7_checks_22 (by decide) (fun c9 => ?_) (fun c9 => ?_)
  · replace h := sx_ip h c9
    refine sx_bipush (v := (-9 : Int32)) dX7_checks_135 (by decide) ?_
    have hk9 := hk9.2 _ (Option.some.inj h).symm
    exact sx_iret dX7_checks_137 rfl hk9
  · replace h := sx_in h c9
    refine sx_iconst (v := (1 : Int32)) dX7_checks_25 (by decide) ?_
    refine sx_istore_n (ls2 := [(3, .int (1 : Int32)), (0, .ref 0), (1, .int v1), (2, .int v2)]) dX7_checks_26 rfl (by decide) rfl ?_
    refine sx_iconst (v := (0 : Int32)) dX7_checks_27 (by decide) ?_
    refine sx_istore (ls2 := [(4, .int (0 : Int32)), (3, .int (1 : Int32)), (0, .ref 0), (1, .int v1), (2, .int v2)]) dX7_checks_28 (by decide) rfl ?_
    refine sx_locs [2, 3, 4, 1, 0] rfl ?_
    exact F7_checks_30_ok l  v1 v2 (1 : Int32) (0 : Int32) q h hk9
def F7_checks_19  (v1 : Int32) (v2 : Int32) (q : SQ) : Option (Int32 × SQ) := sx_loop (fun s34 => F7_checks_19b  v1 s34.1 s34.2) FU (v2, q)
set_option maxHeartbeats 400000 in
theorem F7_checks_19_ok (l : Launch)  {Q : Option Value → SQ → Prop} (v1 : Int32) (v2 : Int32) (q : SQ) {t : Int32 × SQ} (h : F7_checks_19  v1 v2 q = some t) (hk9 : Q (some (.int t.1)) t.2) : PF7_checks l Q 19 [(0, .ref 0), (1, .int v1), (2, .int v2)] [] q := by
  unfold F7_checks_19 at h
  have st : ∀ (s : Int32 × SQ) (res : (Int32 × SQ) ⊕ (Int32 × SQ)), F7_checks_19b  v1 s.1 s.2 = some res → (∀ s2, res = .inl s2 → PF7_checks l Q 19 [(0, .ref 0), (1, .int v1), (2, .int s2.1)] [] s2.2) → (∀ t2, res = .inr t2 → Q (some (.int t2.1)) t2.2) → PF7_checks l Q 19 [(0, .ref 0), (1, .int v1), (2, .int s.1)] [] s.2 :=
    fun s res hb hi ho => F7_checks_19b_ok l  v1 s.1 s.2 hb ⟨hi, ho⟩
  have h9 : PF7_checks l Q 19 [(0, .ref 0), (1, .int v1), (2, .int v2)] [] q := sx_lp (body := fun s => F7_checks_19b  v1 s.1 s.2) (P := fun s => PF7_checks l Q 19 [(0, .ref 0), (1, .int v1), (2, .int s.1)] [] s.2) (T := fun t => Q (some (.int t.1)) t.2) st FU (v2, q) t h hk9
  exact h9
def F7_checks  (v1 : Int32) (q : SQ) : Option (Int32 × SQ) :=
  sx_let (sI q 0 0 (0 : Int32)) (fun q1 => (F7_in  v1 (0 : Int32) (99 : Int32) q1).bind (fun z2 => (if z2.1 = 0 then some ((-1 : Int32), z2.2) else F7_checks_19  v1 (0 : Int32) z2.2)))
set_option maxHeartbeats 400000 in
theorem F7_checks_ok (l : Launch)  {Q : Option Value → SQ → Prop} (v1 : Int32) (q : SQ) {res : Int32 × SQ} (h : F7_checks  v1 q = some res) (hk9 : Q (some (.int res.1)) res.2) : PF7_checks l Q 0 [(0, .ref 0), (1, .int v1)] [] q := by
  unfold F7_checks at h
  refine sx_aload_n dX7_checks_0 rfl rfl ?_
  refine sx_iconst (v := (0 : Int32)) dX7_checks_1 (by decide) ?_
  obtain ⟨q1, eq1, h⟩ := sx_lt h
  refine sx_putI dX7_checks_2 (hs := shM_0) (k9 := 0) (hf := rfl) cb_X7 ⟨by decide, rfl, gw_799⟩ rfl (by decide) ?_
  refine sx_nmQ eq1 ?_
  refine sx_iload_n dX7_checks_5 rfl rfl ?_
  refine sx_iconst (v := (0 : Int32)) dX7_checks_6 (by decide) ?_
  refine sx_bipush (v := (99 : Int32)) dX7_checks_7 (by decide) ?_
  obtain ⟨z2, hz2, h⟩ := sx_bd h
  refine sx_callS (As := [.int v1, .int (0 : Int32), .int (99 : Int32)]) (rest := []) KSM (F7_in_ck l  v1 (0 : Int32) (99 : Int32) q1 hz2) mi_X7_in gw_865 rfl gw_866 ⟨Nat.le_of_ble_eq_true rfl, Nat.le_of_ble_eq_true rfl⟩ (Nat.le_of_ble_eq_true rfl) dX7_checks_9 rfl ?_
  refine sx_if_ne (tgt := 17) dX7_checks_12 (by decide) (fun c9 => ?_) (fun c9 => ?_)
  · replace h := sx_in h c9
    refine sx_iconst (v := (0 : Int32)) dX7_checks_17 (by decide) ?_
    refine sx_istore_n (ls2 := [(2, .int (0 : Int32)), (0, .ref 0), (1, .int v1)]) dX7_checks_18 rfl (by decide) rfl ?_
    refine sx_locs [1, 2, 0] rfl ?_
    exact F7_checks_19_ok l  v1 (0 : Int32) z2.2 h hk9
  · replace h := sx_ip h c9
    refine sx_iconst (v := (-1 : Int32)) dX7_checks_15 (by decide) ?_
    obtain rfl := Option.some.inj h
    exact sx_iret dX7_checks_16 rfl hk9
theorem F7_checks_ck (l : Launch)  (v1 : Int32) (q : SQ) {r : Int32 × SQ} (h : F7_checks  v1 q = some r) : CK shM vwCl KM tfM l yX7_checks cX7_checks 7 ((some .int)) 4 99 [.ref 0, .int v1] q (some (.int r.1)) r.2 :=
  CK.of mi_X7_checks (Nat.le_of_ble_eq_true rfl) (F7_checks_ok l  v1 q h ⟨rfl, rfl⟩)
