theorem mi_X4_addSort : sx_MI yX4_addSort cX4_addSort 3 (none) 2 := ⟨by decide, ⟨by decide, by decide, by decide +kernel⟩, gw_461, gw_61⟩
abbrev PF4_addSort (l : Launch) (Q : Option Value → SQ → Prop) : Nat → List (Nat × Value) → List Value → SQ → Prop := XX shX vwCl KX tfX l RX4 cX4_addSort 3 (none) { frames := 0, cells := 0, slots := 0, locals := 0 } Q
def F4_addSort (k : Nat) (v1 : Int32) (v2 : Int32) (q : SQ) : Option (Unit × SQ) :=
  (if gI q k 1 < (4 : Int32) then (if sx_ix (gI q k 1) 4 = true then sx_let (sI q (k + 4) (gI q k 1).toNatClampNeg v1) (fun q1 => (if sx_ix (gI q1 k 1) 4 = true then sx_let (sI q1 (k + 5) (gI q1 k 1).toNatClampNeg v2) (fun q2 => sx_let (sI q2 k 1 ((gI q2 k 1) + (1 : Int32))) (fun q3 => some ((), q3))) else none)) else none) else some ((), q))
set_option maxHeartbeats 400000 in
theorem F4_addSort_ok (l : Launch) (k : Nat) (hk : iSh k) {Q : Option Value → SQ → Prop} (v1 : Int32) (v2 : Int32) (q : SQ) {res : Unit × SQ} (h : F4_addSort k v1 v2 q = some res) (hk9 : Q none res.2) : PF4_addSort l Q 0 [(0, .ref k), (1, .int v1), (2, .int v2)] [] q := by
  unfold F4_addSort at h
  refine sx_aload_n dX4_addSort_0 rfl rfl ?_
  refine sx_getI dX4_addSort_1 (hs := hk.1) (k9 := 1) (hf := rfl) cb_X4 ⟨by decide, rfl, gw_92⟩ ?_
  refine sx_iconst (v := (4 : Int32)) dX4_addSort_4 (by decide) ?_
  refine sx_icmp_lt (tgt := 9) dX4_addSort_5 (by decide) (fun c9 => ?_) (fun c9 => ?_)
  · replace h := sx_ip h c9
    refine sx_aload_n dX4_addSort_9 rfl rfl ?_
    refine sx_getR dX4_addSort_10 (hs := hk.1) (k9 := 5) (hf := rfl) cb_X4 ⟨by decide, rfl, gw_104⟩ ?_
    refine sx_aload_n dX4_addSort_13 rfl rfl ?_
    refine sx_getI dX4_addSort_14 (hs := hk.1) (k9 := 1) (hf := rfl) cb_X4 ⟨by decide, rfl, gw_92⟩ ?_
    refine sx_iload_n dX4_addSort_17 rfl rfl ?_
    obtain ⟨g9, h⟩ := sx_gd h
    obtain ⟨q1, eq1, h⟩ := sx_lt h
    refine sx_iast dX4_addSort_18 hk.2.2.2.2.1 (fun _ _ => rfl) (sx_ix_in g9) ?_
    refine sx_nmQ eq1 ?_
    refine sx_aload_n dX4_addSort_19 rfl rfl ?_
    refine sx_getR dX4_addSort_20 (hs := hk.1) (k9 := 6) (hf := rfl) cb_X4 ⟨by decide, rfl, gw_106⟩ ?_
    refine sx_aload_n dX4_addSort_23 rfl rfl ?_
    refine sx_getI dX4_addSort_24 (hs := hk.1) (k9 := 1) (hf := rfl) cb_X4 ⟨by decide, rfl, gw_92⟩ ?_
    refine sx_iload_n dX4_addSort_27 rfl rfl ?_
    obtain ⟨g9, h⟩ := sx_gd h
    obtain ⟨q2, eq2, h⟩ := sx_lt h
    refine sx_iast dX4_addSort_28 hk.2.2.2.2.2.1 (fun _ _ => rfl) (sx_ix_in g9) ?_
    refine sx_nmQ eq2 ?_
    refine sx_aload_n dX4_addSort_29 rfl rfl ?_
    refine sx_dup dX4_addSort_30 rfl ?_
    refine sx_getI dX4_addSort_31 (hs := hk.1) (k9 := 1) (hf := rfl) cb_X4 ⟨by decide, rfl, gw_92⟩ ?_
    refine sx_iconst (v := (1 : Int32)) dX4_addSort_34 (by decide) ?_
    refine sx_iadd dX4_addSort_35 ?_
    obtain ⟨q3, eq3, h⟩ := sx_lt h
    refine sx_putI dX4_addSort_36 (hs := hk.1) (k9 := 1) (hf := rfl) cb_X4 ⟨by decide, rfl, gw_92⟩ rfl (by decide) ?_
    refine sx_nmQ eq3 ?_
    obtain rfl := Option.some.inj h
    exact sx_vret dX4_addSort_39 rfl hk9
  · replace h := sx_in h c9
    obtain rfl := Option.some.inj h
    exact sx_vret dX4_addSort_8 rfl hk9
theorem F4_addSort_ck (l : Launch) (k : Nat) (hk : iSh k) (v1 : Int32) (v2 : Int32) (q : SQ) {r : Unit × SQ} (h : F4_addSort k v1 v2 q = some r) : CK shX vwCl KX tfX l yX4_addSort cX4_addSort 3 (none) 0 0 [.ref k, .int v1, .int v2] q none r.2 :=
  CK.of mi_X4_addSort (Nat.le_of_ble_eq_true rfl) (F4_addSort_ok l k hk v1 v2 q h ⟨rfl, rfl⟩)
theorem mi_X3_readBook : sx_MI yX3_readBook cX3_readBook 3 ((some .boolean)) 0 := ⟨by decide, ⟨by decide, by decide, by decide +kernel⟩, gw_457, gw_62⟩
abbrev PF3_readBook (l : Launch) (Q : Option Value → SQ → Prop) : Nat → List (Nat × Value) → List Value → SQ → Prop := XX shX vwCl KX tfX l RX3 cX3_readBook 3 ((some .boolean)) { frames := 2, cells := 0, slots := 0, locals := 45 } Q
def F3_readBook   (q : SQ) : Option (Int32 × SQ) :=
  sx_let (sI q 8 5 ((gI q 8 5) + (1 : Int32))) (fun q1 => (F3_readNumber  (1 : Int32) (9 : Int32) q1).bind (fun z2 => sx_let z2.1 (fun x3 => (if 0 ≤ x3 then (F3_readNumber  (0 : Int32) (9 : Int32) z2.2).bind (fun z4 => sx_let z4.1 (fun x5 => (if 0 ≤ x5 then (F4_addSort 10 x3 x5 z4.2).bind (fun z6 => some ((1 : Int32), z6.2)) else some ((0 : Int32), z4.2)))) else some ((0 : Int32), z2.2)))))
set_option maxHeartbeats 400000 in
theorem F3_readBook_ok (l : Launch)  {Q : Option Value → SQ → Prop}  (q : SQ) {res : Int32 × SQ} (h : F3_readBook   q = some res) (hk9 : Q (some (.int res.1)) res.2) : PF3_readBook l Q 0 [(0, .ref 8)] [] q := by
  unfold F3_readBook at h
  refine sx_aload_n dX3_readBook_0 rfl rfl ?_
  refine sx_dup dX3_readBook_1 rfl ?_
  refine sx_getI dX3_readBook_2 (hs := shX_8) (k9 := 5) (hf := rfl) cb_X3 ⟨by decide, rfl, gw_162⟩ ?_
  refine sx_iconst (v := (1 : Int32)) dX3_readBook_5 (by decide) ?_
  refine sx_iadd dX3_readBook_6 ?_
  obtain ⟨q1, eq1, h⟩ := sx_lt h
  refine sx_putI dX3_readBook_7 (hs := shX_8) (k9 := 5) (hf := rfl) cb_X3 ⟨by decide, rfl, gw_162⟩ rfl (by decide) ?_
  refine sx_nmQ eq1 ?_
  refine sx_aload_n dX3_readBook_10 rfl rfl ?_
  refine sx_iconst (v := (1 : Int32)) dX3_readBook_11 (by decide) ?_
  refine sx_bipush (v := (9 : Int32)) dX3_readBook_12 (by decide) ?_
  obtain ⟨z2, hz2, h⟩ := sx_bd h
  refine sx_callV (o := 8) (As := [.int (1 : Int32), .int (9 : Int32)]) (rest := []) KSX (F3_readNumber_ck l  (1 : Int32) (9 : Int32) q1 hz2) mi_X3_readNumber gw_445 rfl ⟨gw_447, gw_8⟩ shX_8 rfl rfl ⟨Nat.le_of_ble_eq_true rfl, Nat.le_of_ble_eq_true rfl⟩ (Nat.le_of_ble_eq_true rfl) dX3_readBook_14 rfl ?_
  obtain ⟨x3, ex3, h⟩ := sx_lt h
  refine sx_nmI ex3 ?_
  refine sx_istore_n (ls2 := [(1, .int x3), (0, .ref 8)]) dX3_readBook_17 rfl (by decide) rfl ?_
  refine sx_iload_n dX3_readBook_18 rfl rfl ?_
  refine sx_if_ge (tgt := 24) dX3_readBook_19 (by decide) (fun c9 => ?_) (fun c9 => ?_)
  · replace h := sx_ip h c9
    refine sx_aload_n dX3_readBook_24 rfl rfl ?_
    refine sx_iconst (v := (0 : Int32)) dX3_readBook_25 (by decide) ?_
    refine sx_bipush (v := (9 : Int32)) dX3_readBook_26 (by decide) ?_
    obtain ⟨z4, hz4, h⟩ := sx_bd h
    refine sx_callV (o := 8) (As := [.int (0 : Int32), .int (9 : Int32)]) (rest := []) KSX (F3_readNumber_ck l  (0 : Int32) (9 : Int32) z2.2 hz4) mi_X3_readNumber gw_445 rfl ⟨gw_447, gw_8⟩ shX_8 rfl rfl ⟨Nat.le_of_ble_eq_true rfl, Nat.le_of_ble_eq_true rfl⟩ (Nat.le_of_ble_eq_true rfl) dX3_readBook_28 rfl ?_
    obtain ⟨x5, ex5, h⟩ := sx_lt h
    refine sx_nmI ex5 ?_
    refine sx_istore_n (ls2 := [(2, .int x5), (1, .int x3), (0, .ref 8)]) dX3_readBook_31 rfl (by decide) rfl ?_
    refine sx_iload_n dX3_readBook_32 rfl rfl ?_
    refine sx_if_ge (tgt := 38) dX3_readBook_33 (by decide) (fun c9 => ?_) (fun c9 => ?_)
    · replace h := sx_ip h c9
      refine sx_aload_n dX3_readBook_38 rfl rfl ?_
      refine sx_getR dX3_readBook_39 (hs := shX_8) (k9 := 2) (hf := rfl) cb_X3 ⟨by decide, rfl, gw_158⟩ ?_
      refine sx_iload_n dX3_readBook_42 rfl rfl ?_
      refine sx_iload_n dX3_readBook_43 rfl rfl ?_
      obtain ⟨z6, hz6, h⟩ := sx_bd h
      refine sx_callV (o := 10) (As := [.int x3, .int x5]) (rest := []) KSX (F4_addSort_ck l 10 iSh_10 x3 x5 z4.2 hz6) mi_X4_addSort gw_458 rfl ⟨gw_459, gw_460⟩ shX_10 rfl rfl ⟨Nat.le_of_ble_eq_true rfl, Nat.le_of_ble_eq_true rfl⟩ (Nat.le_of_ble_eq_true rfl) dX3_readBook_44 rfl ?_
      refine sx_iconst (v := (1 : Int32)) dX3_readBook_47 (by decide) ?_
      obtain rfl := Option.some.inj h
      exact sx_zret dX3_readBook_48 rfl (by decide) hk9
    · replace h := sx_in h c9
      refine sx_iconst (v := (0 : Int32)) dX3_readBook_36 (by decide) ?_
      obtain rfl := Option.some.inj h
      exact sx_zret dX3_readBook_37 rfl (by decide) hk9
  · replace h := sx_in h c9
    refine sx_iconst (v := (0 : Int32)) dX3_readBook_22 (by decide) ?_
    obtain rfl := Option.some.inj h
    exact sx_zret dX3_readBook_23 rfl (by decide) hk9
theorem F3_readBook_ck (l : Launch)   (q : SQ) {r : Int32 × SQ} (h : F3_readBook   q = some r) : CK shX vwCl KX tfX l yX3_readBook cX3_readBook 3 ((some .boolean)) 2 45 [.ref 8] q (some (.int r.1)) r.2 :=
  CK.of mi_X3_readBook (Nat.le_of_ble_eq_true rfl) (F3_readBook_ok l   q h ⟨rfl, rfl⟩)
theorem mi_X3_readWord : sx_MI yX3_readWord cX3_readWord 2 ((some .boolean)) 1 := ⟨by decide, ⟨by decide, by decide, by decide +kernel⟩, gw_469, gw_62⟩
abbrev PF3_readWord (l : Launch) (Q : Option Value → SQ → Prop) : Nat → List (Nat × Value) → List Value → SQ → Prop := XX shX vwCl KX tfX l RX3 cX3_readWord 2 ((some .boolean)) { frames := 1, cells := 0, slots := 0, locals := 20 } Q
def F3_readWord  (v1 : Int32) (q : SQ) : Option (Int32 × SQ) :=
  (F3_seen   q).bind (fun z1 => (if z1.1 = v1 then sx_let (sI z1.2 8 5 ((gI z1.2 8 5) + (1 : Int32))) (fun q2 => some ((1 : Int32), q2)) else some ((0 : Int32), z1.2)))
set_option maxHeartbeats 400000 in
theorem F3_readWord_ok (l : Launch)  {Q : Option Value → SQ → Prop} (v1 : Int32) (q : SQ) {res : Int32 × SQ} (h : F3_readWord  v1 q = some res) (hk9 : Q (some (.int res.1)) res.2) : PF3_readWord l Q 0 [(0, .ref 8), (1, .int v1)] [] q := by
  unfold F3_readWord at h
  refine sx_aload_n dX3_readWord_0 rfl rfl ?_
  obtain ⟨z1, hz1, h⟩ := sx_bd h
  refine sx_callV (o := 8) (As := []) (rest := []) KSX (F3_seen_ck l   q hz1) mi_X3_seen gw_433 rfl ⟨gw_435, gw_5⟩ shX_8 rfl rfl ⟨Nat.le_of_ble_eq_true rfl, Nat.le_of_ble_eq_true rfl⟩ (Nat.le_of_ble_eq_true rfl) dX3_readWord_1 rfl ?_
  refine sx_iload_n dX3_readWord_4 rfl rfl ?_
  refine sx_icmp_eq (tgt := 10) dX3_readWord_5 (by decide) (fun c9 => ?_) (fun c9 => ?_)
  · replace h := sx_ip h c9
    refine sx_aload_n dX3_readWord_10 rfl rfl ?_
    refine sx_dup dX3_readWord_11 rfl ?_
    refine sx_getI dX3_readWord_12 (hs := shX_8) (k9 := 5) (hf := rfl) cb_X3 ⟨by decide, rfl, gw_162⟩ ?_
    refine sx_iconst (v := (1 : Int32)) dX3_readWord_15 (by decide) ?_
    refine sx_iadd dX3_readWord_16 ?_
    obtain ⟨q2, eq2, h⟩ := sx_lt h
    refine sx_putI dX3_readWord_17 (hs := shX_8) (k9 := 5) (hf := rfl) cb_X3 ⟨by decide, rfl, gw_162⟩ rfl (by decide) ?_
    refine sx_nmQ eq2 ?_
    refine sx_iconst (v := (1 : Int32)) dX3_readWord_20 (by decide) ?_
    obtain rfl := Option.some.inj h
    exact sx_zret dX3_readWord_21 rfl (by decide) hk9
  · replace h := sx_in h c9
    refine sx_iconst (v := (0 : Int32)) dX3_readWord_8 (by decide) ?_
    obtain rfl := Option.some.inj h
    exact sx_zret dX3_readWord_9 rfl (by decide) hk9
theorem F3_readWord_ck (l : Launch)  (v1 : Int32) (q : SQ) {r : Int32 × SQ} (h : F3_readWord  v1 q = some r) : CK shX vwCl KX tfX l yX3_readWord cX3_readWord 2 ((some .boolean)) 1 20 [.ref 8, .int v1] q (some (.int r.1)) r.2 :=
  CK.of mi_X3_readWord (Nat.le_of_ble_eq_true rfl) (F3_readWord_ok l  v1 q h ⟨rfl, rfl⟩)
theorem mi_X3_readPlan : sx_MI yX3_readPlan cX3_readPlan 5 ((some .boolean)) 0 := ⟨by decide, ⟨by decide, by decide, by decide +kernel⟩, gw_465, gw_62⟩
abbrev PF3_readPlan (l : Launch) (Q : Option Value → SQ → Prop) : Nat → List (Nat × Value) → List Value → SQ → Prop := XX shX vwCl KX tfX l RX3 cX3_readPlan 5 ((some .boolean)) { frames := 2, cells := 0, slots := 0, locals := 45 } Q
def F3_readPlan_73  (v1 : Int32) (v2 : Int32) (v3 : Int32) (s0 : Int32) (q : SQ) : Option (Int32 × SQ) :=
  (if 0 ≤ s0 then (F4_schedule 10 v1 v2 v3 s0 q).bind (fun z8 => sx_let (sI z8.2 8 6 (1 : Int32)) (fun q9 => some ((1 : Int32), q9))) else some ((0 : Int32), q))
set_option maxHeartbeats 400000 in
theorem F3_readPlan_73_ok (l : Launch)  {Q : Option Value → SQ → Prop} (v1 : Int32) (v2 : Int32) (v3 : Int32) (s0 : Int32) (q : SQ) {res : Int32 × SQ} (h : F3_readPlan_73  v1 v2 v3 s0 q = some res) (hk9 : Q (some (.int res.1)) res.2) : PF3_readPlan l Q 73 [(0, .ref 8), (1, .int v1), (2, .int v2), (3, .int v3)] [.int s0] q := by
  unfold F3_readPlan_73 at h
  refine sx_istore (ls2 := [(4, .int s0), (0, .ref 8), (1, .int v1), (2, .int v2), (3, .int v3)]) dX3_readPlan_73 (by decide) rfl ?_
  refine sx_iload dX3_readPlan_75 rfl ?_
  refine sx_if_ge (tgt := 82) dX3_readPlan_77 (by decide) (fun c9 => ?_) (fun c9 => ?_)
  · replace h := sx_ip h c9
    refine sx_aload_n dX3_readPlan_82 rfl rfl ?_
    refine sx_getR dX3_readPlan_83 (hs := shX_8) (k9 := 2) (hf := rfl) cb_X3 ⟨by decide, rfl, gw_158⟩ ?_
    refine sx_iload_n dX3_readPlan_86 rfl rfl ?_
    refine sx_iload_n dX3_readPlan_87 rfl rfl ?_
    refine sx_iload_n dX3_readPlan_88 rfl rfl ?_
    refine sx_iload dX3_readPlan_89 rfl ?_
    obtain ⟨z8, hz8, h⟩ := sx_bd h
    refine sx_callV (o := 10) (As := [.int v1, .int v2, .int v3, .int s0]) (rest := []) KSX (F4_schedule_ck l 10 iSh_10 v1 v2 v3 s0 q hz8) mi_X4_schedule gw_470 rfl ⟨gw_281, gw_282⟩ shX_10 rfl rfl ⟨Nat.le_of_ble_eq_true rfl, Nat.le_of_ble_eq_true rfl⟩ (Nat.le_of_ble_eq_true rfl) dX3_readPlan_91 rfl ?_
    refine sx_aload_n dX3_readPlan_94 rfl rfl ?_
    refine sx_iconst (v := (1 : Int32)) dX3_readPlan_95 (by decide) ?_
    obtain ⟨q9, eq9, h⟩ := sx_lt h
    refine sx_putZ dX3_readPlan_96 (hs := shX_8) (k9 := 6) (hf := rfl) cb_X3 ⟨by decide, rfl, gw_163⟩ rfl (by decide) (by decide) ?_
    refine sx_nmQ eq9 ?_
    refine sx_iconst (v := (1 : Int32)) dX3_readPlan_99 (by decide) ?_
    obtain rfl := Option.some.inj h
    exact sx_zret dX3_readPlan_100 rfl (by decide) hk9
  · replace h := sx_in h c9
    refine sx_iconst (v := (0 : Int32)) dX3_readPlan_80 (by decide) ?_
    obtain rfl := Option.some.inj h
    exact sx_zret dX3_readPlan_81 rfl (by decide) hk9
def F3_readPlan_52  (v1 : Int32) (v2 : Int32) (s0 : Int32) (q : SQ) : Option (Int32 × SQ) :=
  (F3_readWord  (-5 : Int32) q).bind (fun z7 => (if z7.1 = 0 then F3_readPlan_73  v1 v2 s0 (0 : Int32) z7.2 else (F3_readNumber  (0 : Int32) (20 : Int32) z7.2).bind (fun z10 => F3_readPlan_73  v1 v2 s0 z10.1 z10.2)))
set_option maxHeartbeats 400000 in
theorem F3_readPlan_52_ok (l : Launch)  {Q : Option Value → SQ → Prop} (v1 : Int32) (v2 : Int32) (s0 : Int32) (q : SQ) {res : Int32 × SQ} (h : F3_readPlan_52  v1 v2 s0 q = some res) (hk9 : Q (some (.int res.1)) res.2) : PF3_readPlan l Q 52 [(0, .ref 8), (1, .int v1), (2, .int v2)] [.int s0] q := by
  unfold F3_readPlan_52 at h
  refine sx_istore_n (ls2 := [(3, .int s0), (0, .ref 8), (1, .int v1), (2, .int v2)]) dX3_readPlan_52 rfl (by decide) rfl ?_
  refine sx_aload_n dX3_readPlan_53 rfl rfl ?_
  refine sx_bipush (v := (-5 : Int32)) dX3_readPlan_54 (by decide) ?_
  obtain ⟨z7, hz7, h⟩ := sx_bd h
  refine sx_callV (o := 8) (As := [.int (-5 : Int32)]) (rest := []) KSX (F3_readWord_ck l  (-5 : Int32) q hz7) mi_X3_readWord gw_466 rfl ⟨gw_468, gw_11⟩ shX_8 rfl rfl ⟨Nat.le_of_ble_eq_true rfl, Nat.le_of_ble_eq_true rfl⟩ (Nat.le_of_ble_eq_true rfl) dX3_readPlan_56 rfl ?_
  refine sx_if_eq (tgt := 72) dX3_readPlan_59 (by decide) (fun c9 => ?_) (fun c9 => ?_)
  · replace h := sx_ip h c9
    refine sx_iconst (v := (0 : Int32)) dX3_readPlan_72 (by decide) ?_
    refine sx_locs [1, 2, 3, 0] rfl ?_
    exact F3_readPlan_73_ok l  v1 v2 s0 (0 : Int32) z7.2 h hk9
  · replace h := sx_in h c9
    refine sx_aload_n dX3_readPlan_62 rfl rfl ?_
    refine sx_iconst (v := (0 : Int32)) dX3_readPlan_63 (by decide) ?_
    refine sx_bipush (v := (20 : Int32)) dX3_readPlan_64 (by decide) ?_
    obtain ⟨z10, hz10, h⟩ := sx_bd h
    refine sx_callV (o := 8) (As := [.int (0 : Int32), .int (20 : Int32)]) (rest := []) KSX (F3_readNumber_ck l  (0 : Int32) (20 : Int32) z7.2 hz10) mi_X3_readNumber gw_445 rfl ⟨gw_447, gw_8⟩ shX_8 rfl rfl ⟨Nat.le_of_ble_eq_true rfl, Nat.le_of_ble_eq_true rfl⟩ (Nat.le_of_ble_eq_true rfl) dX3_readPlan_66 rfl ?_
    refine sx_goto (tgt := 73) dX3_readPlan_69 (by decide) ?_
    refine sx_locs [1, 2, 3, 0] rfl ?_
    exact F3_readPlan_73_ok l  v1 v2 s0 z10.1 z10.2 h hk9
def F3_readPlan   (q : SQ) : Option (Int32 × SQ) :=
  sx_let (sI q 8 5 ((gI q 8 5) + (1 : Int32))) (fun q1 => (F3_readNumber  (0 : Int32) (99 : Int32) q1).bind (fun z2 => sx_let z2.1 (fun x3 => (if 0 ≤ x3 then (F3_readNumber  x3 (99 : Int32) z2.2).bind (fun z4 => sx_let z4.1 (fun x5 => (if 0 ≤ x5 then (F3_readWord  (-4 : Int32) z4.2).bind (fun z6 => (if z6.1 = 0 then F3_readPlan_52  x3 x5 (1 : Int32) z6.2 else F3_readPlan_52  x3 x5 (0 : Int32) z6.2)) else some ((0 : Int32), z4.2)))) else some ((0 : Int32), z2.2)))))
set_option maxHeartbeats 400000 in
theorem F3_readPlan_ok (l : Launch)  {Q : Option Value → SQ → Prop}  (q : SQ) {res : Int32 × SQ} (h : F3_readPlan   q = some res) (hk9 : Q (some (.int res.1)) res.2) : PF3_readPlan l Q 0 [(0, .ref 8)] [] q := by
  unfold F3_readPlan at h
  refine sx_aload_n dX3_readPlan_0 rfl rfl ?_
  refine sx_dup dX3_readPlan_1 rfl ?_
  refine sx_getI dX3_readPlan_2 (hs := shX_8) (k9 := 5) (hf := rfl) cb_X3 ⟨by decide, rfl, gw_162⟩ ?_
  refine sx_iconst (v := (1 : Int32)) dX3_readPlan_5 (by decide) ?_
  refine sx_iadd dX3_readPlan_6 ?_
  obtain ⟨q1, eq1, h⟩ := sx_lt h
  refine sx_putI dX3_readPlan_7 (hs := shX_8) (k9 := 5) (hf := rfl) cb_X3 ⟨by decide, rfl, gw_162⟩ rfl (by decide) ?_
  refine sx_nmQ eq1 ?_
  refine sx_aload_n dX3_readPlan_10 rfl rfl ?_
  refine sx_iconst (v := (0 : Int32)) dX3_readPlan_11 (by decide) ?_
  refine sx_bipush (v := (99 : Int32)) dX3_readPlan_12 (by decide) ?_
  obtain ⟨z2, hz2, h⟩ := sx_bd h
  refine sx_callV (o := 8) (As := [.int (0 : Int32), .int (99 : Int32)]) (rest := []) KSX (F3_readNumber_ck l  (0 : Int32) (99 : Int32) q1 hz2) mi_X3_readNumber gw_445 rfl ⟨gw_447, gw_8⟩ shX_8 rfl rfl ⟨Nat.le_of_ble_eq_true rfl, Nat.le_of_ble_eq_true rfl⟩ (Nat.le_of_ble_eq_true rfl) dX3_readPlan_14 rfl ?_
  obtain ⟨x3, ex3, h⟩ := sx_lt h
  refine sx_nmI ex3 ?_
  refine sx_istore_n (ls2 := [(1, .int x3), (0, .ref 8)]) dX3_readPlan_17 rfl (by decide) rfl ?_
  refine sx_iload_n dX3_readPlan_18 rfl rfl ?_
  refine sx_if_ge (tgt := 24) dX3_readPlan_19 (by decide) (fun c9 => ?_) (fun c9 => ?_)
  · replace h := sx_ip h c9
    refine sx_aload_n dX3_readPlan_24 rfl rfl ?_
    refine sx_iload_n dX3_readPlan_25 rfl rfl ?_
    refine sx_bipush (v := (99 : Int32)) dX3_readPlan_26 (by decide) ?_
    obtain ⟨z4, hz4, h⟩ := sx_bd h
    refine sx_callV (o := 8) (As := [.int x3, .int (99 : Int32)]) (rest := []) KSX (F3_readNumber_ck l  x3 (99 : Int32) z2.2 hz4) mi_X3_readNumber gw_445 rfl ⟨gw_447, gw_8⟩ shX_8 rfl rfl ⟨Nat.le_of_ble_eq_true rfl, Nat.le_of_ble_eq_true rfl⟩ (Nat.le_of_ble_eq_true rfl) dX3_readPlan_28 rfl ?_
    obtain ⟨x5, ex5, h⟩ := sx_lt h
    refine sx_nmI ex5 ?_
    refine sx_istore_n (ls2 := [(2, .int x5), (1, .int x3), (0, .ref 8)]) dX3_readPlan_31 rfl (by decide) rfl ?_
    refine sx_iload_n dX3_readPlan_32 rfl rfl ?_
    refine sx_if_ge (tgt := 38) dX3_readPlan_33 (by decide) (fun c9 => ?_) (fun c9 => ?_)
    · replace h := sx_ip h c9
      refine sx_aload_n dX3_readPlan_38 rfl rfl ?_
      refine sx_bipush (v := (-4 : Int32)) dX3_readPlan_39 (by decide) ?_
      obtain ⟨z6, hz6, h⟩ := sx_bd h
      refine sx_callV (o := 8) (As := [.int (-4 : Int32)]) (rest := []) KSX (F3_readWord_ck l  (-4 : Int32) z4.2 hz6) mi_X3_readWord gw_466 rfl ⟨gw_468, gw_11⟩ shX_8 rfl rfl ⟨Nat.le_of_ble_eq_true rfl, Nat.le_of_ble_eq_true rfl⟩ (Nat.le_of_ble_eq_true rfl) dX3_readPlan_41 rfl ?_
      refine sx_if_ne (tgt := 51) dX3_readPlan_44 (by decide) (fun c9 => ?_) (fun c9 => ?_)
      · replace h := sx_in h c9
        refine sx_iconst (v := (0 : Int32)) dX3_readPlan_51 (by decide) ?_
        refine sx_locs [2, 1, 0] rfl ?_
        exact F3_readPlan_52_ok l  x3 x5 (0 : Int32) z6.2 h hk9
      · replace h := sx_ip h c9
        refine sx_iconst (v := (1 : Int32)) dX3_readPlan_47 (by decide) ?_
        refine sx_goto (tgt := 52) dX3_readPlan_48 (by decide) ?_
        refine sx_locs [2, 1, 0] rfl ?_
        exact F3_readPlan_52_ok l  x3 x5 (1 : Int32) z6.2 h hk9
    · replace h := sx_in h c9
      refine sx_iconst (v := (0 : Int32)) dX3_readPlan_36 (by decide) ?_
      obtain rfl := Option.some.inj h
      exact sx_zret dX3_readPlan_37 rfl (by decide) hk9
  · replace h := sx_in h c9
    refine sx_iconst (v := (0 : Int32)) dX3_readPlan_22 (by decide) ?_
    obtain rfl := Option.some.inj h
    exact sx_zret dX3_readPlan_23 rfl (by decide) hk9
theorem F3_readPlan_ck (l : Launch)   (q : SQ) {r : Int32 × SQ} (h : F3_readPlan   q = some r) : CK shX vwCl KX tfX l yX3_readPlan cX3_readPlan 5 ((some .boolean)) 2 45 [.ref 8] q (some (.int r.1)) r.2 :=
  CK.of mi_X3_readPlan (Nat.le_of_ble_eq_true rfl) (F3_readPlan_ok l   q h ⟨rfl, rfl⟩)
theorem mi_X3_readPay : sx_MI yX3_readPay cX3_readPay 3 ((some .boolean)) 0 := ⟨by decide, ⟨by decide, by decide, by decide +kernel⟩, gw_474, gw_62⟩
abbrev PF3_readPay (l : Launch) (Q : Option Value → SQ → Prop) : Nat → List (Nat × Value) → List Value → SQ → Prop := XX shX vwCl KX tfX l RX3 cX3_readPay 3 ((some .boolean)) { frames := 2, cells := 0, slots := 0, locals := 45 } Q
def F3_readPay   (q : SQ) : Option (Int32 × SQ) :=
  sx_let (sI q 8 5 ((gI q 8 5) + (1 : Int32))) (fun q1 => (F3_readNumber  (0 : Int32) ((gI q1 10 1) - (1 : Int32)) q1).bind (fun z2 => sx_let z2.1 (fun x3 => (if 0 ≤ x3 then (F3_readNumber  (0 : Int32) (9 : Int32) z2.2).bind (fun z4 => sx_let z4.1 (fun x5 => (if 0 ≤ x5 then (if sx_ix x3 4 = true then sx_let (sI z4.2 16 x3.toNatClampNeg x5) (fun q6 => some ((1 : Int32), q6)) else none) else some ((0 : Int32), z4.2)))) else some ((0 : Int32), z2.2)))))
set_option maxHeartbeats 400000 in
theorem F3_readPay_ok (l : Launch)  {Q : Option Value → SQ → Prop}  (q : SQ) {res : Int32 × SQ} (h : F3_readPay   q = some res) (hk9 : Q (some (.int res.1)) res.2) : PF3_readPay l Q 0 [(0, .ref 8)] [] q := by
  unfold F3_readPay at h
  refine sx_aload_n dX3_readPay_0 rfl rfl ?_
  refine sx_dup dX3_readPay_1 rfl ?_
  refine sx_getI dX3_readPay_2 (hs := shX_8) (k9 := 5) (hf := rfl) cb_X3 ⟨by decide, rfl, gw_162⟩ ?_
  refine sx_iconst (v := (1 : Int32)) dX3_readPay_5 (by decide) ?_
  refine sx_iadd dX3_readPay_6 ?_
  obtain ⟨q1, eq1, h⟩ := sx_lt h
  refine sx_putI dX3_readPay_7 (hs := shX_8) (k9 := 5) (hf := rfl) cb_X3 ⟨by decide, rfl, gw_162⟩ rfl (by decide) ?_
  refine sx_nmQ eq1 ?_
  refine sx_aload_n dX3_readPay_10 rfl rfl ?_
  refine sx_iconst (v := (0 : Int32)) dX3_readPay_11 (by decide) ?_
  refine sx_aload_n dX3_readPay_12 rfl rfl ?_
  refine sx_getR dX3_readPay_13 (hs := shX_8) (k9 := 2) (hf := rfl) cb_X3 ⟨by decide, rfl, gw_158⟩ ?_
  refine sx_getI dX3_readPay_16 (hs := shX_10) (k9 := 1) (hf := rfl) cb_X4 ⟨by decide, rfl, gw_94⟩ ?_
  refine sx_iconst (v := (1 : Int32)) dX3_readPay_19 (by decide) ?_
  refine sx_isub dX3_readPay_20 ?_
  obtain ⟨z2, hz2, h⟩ := sx_bd h
  refine sx_callV (o := 8) (As := [.int (0 : Int32), .int ((gI q1 10 1) - (1 : Int32))]) (rest := []) KSX (F3_readNumber_ck l  (0 : Int32) ((gI q1 10 1) - (1 : Int32)) q1 hz2) mi_X3_readNumber gw_445 rfl ⟨gw_447, gw_8⟩ shX_8 rfl rfl ⟨Nat.le_of_ble_eq_true rfl, Nat.le_of_ble_eq_true rfl⟩ (Nat.le_of_ble_eq_true rfl) dX3_readPay_21 rfl ?_
  obtain ⟨x3, ex3, h⟩ := sx_lt h
  refine sx_nmI ex3 ?_
  refine sx_istore_n (ls2 := [(1, .int x3), (0, .ref 8)]) dX3_readPay_24 rfl (by decide) rfl ?_
  refine sx_iload_n dX3_readPay_25 rfl rfl ?_
  refine sx_if_ge (tgt := 31) dX3_readPay_26 (by decide) (fun c9 => ?_) (fun c9 => ?_)
  · replace h := sx_ip h c9
    refine sx_aload_n dX3_readPay_31 rfl rfl ?_
    refine sx_iconst (v := (0 : Int32)) dX3_readPay_32 (by decide) ?_
    refine sx_bipush (v := (9 : Int32)) dX3_readPay_33 (by decide) ?_
    obtain ⟨z4, hz4, h⟩ := sx_bd h
    refine sx_callV (o := 8) (As := [.int (0 : Int32), .int (9 : Int32)]) (rest := []) KSX (F3_readNumber_ck l  (0 : Int32) (9 : Int32) z2.2 hz4) mi_X3_readNumber gw_445 rfl ⟨gw_447, gw_8⟩ shX_8 rfl rfl ⟨Nat.le_of_ble_eq_true rfl, Nat.le_of_ble_eq_true rfl⟩ (Nat.le_of_ble_eq_true rfl) dX3_readPay_35 rfl ?_
    obtain ⟨x5, ex5, h⟩ := sx_lt h
    refine sx_nmI ex5 ?_
    refine sx_istore_n (ls2 := [(2, .int x5), (1, .int x3), (0, .ref 8)]) dX3_readPay_38 rfl (by decide) rfl ?_
    refine sx_iload_n dX3_readPay_39 rfl rfl ?_
    refine sx_if_ge (tgt := 45) dX3_readPay_40 (by decide) (fun c9 => ?_) (fun c9 => ?_)
    · replace h := sx_ip h c9
      refine sx_aload_n dX3_readPay_45 rfl rfl ?_
      refine sx_getR dX3_readPay_46 (hs := shX_8) (k9 := 2) (hf := rfl) cb_X3 ⟨by decide, rfl, gw_158⟩ ?_
      refine sx_getR dX3_readPay_49 (hs := shX_10) (k9 := 7) (hf := rfl) cb_X4 ⟨by decide, rfl, gw_111⟩ ?_
      refine sx_iload_n dX3_readPay_52 rfl rfl ?_
      refine sx_iload_n dX3_readPay_53 rfl rfl ?_
      obtain ⟨g9, h⟩ := sx_gd h
      obtain ⟨q6, eq6, h⟩ := sx_lt h
      refine sx_iast dX3_readPay_54 shX_16 (fun _ _ => rfl) (sx_ix_in g9) ?_
      refine sx_nmQ eq6 ?_
      refine sx_iconst (v := (1 : Int32)) dX3_readPay_55 (by decide) ?_
      obtain rfl := Option.some.inj h
      exact sx_zret dX3_readPay_56 rfl (by decide) hk9
    · replace h := sx_in h c9
      refine sx_iconst (v := (0 : Int32)) dX3_readPay_43 (by decide) ?_
      obtain rfl := Option.some.inj h
      exact sx_zret dX3_readPay_44 rfl (by decide) hk9
  · replace h := sx_in h c9
    refine sx_iconst (v := (0 : Int32)) dX3_readPay_29 (by decide) ?_
    obtain rfl := Option.some.inj h
    exact sx_zret dX3_readPay_30 rfl (by decide) hk9
theorem F3_readPay_ck (l : Launch)   (q : SQ) {r : Int32 × SQ} (h : F3_readPay   q = some r) : CK shX vwCl KX tfX l yX3_readPay cX3_readPay 3 ((some .boolean)) 2 45 [.ref 8] q (some (.int r.1)) r.2 :=
  CK.of mi_X3_readPay (Nat.le_of_ble_eq_true rfl) (F3_readPay_ok l   q h ⟨rfl, rfl⟩)
theorem mi_X3_readItem : sx_MI yX3_readItem cX3_readItem 1 ((some .boolean)) 0 := ⟨by decide, ⟨by decide, by decide, by decide +kernel⟩, gw_440, gw_62⟩
abbrev PF3_readItem (l : Launch) (Q : Option Value → SQ → Prop) : Nat → List (Nat × Value) → List Value → SQ → Prop := XX shX vwCl KX tfX l RX3 cX3_readItem 1 ((some .boolean)) { frames := 3, cells := 0, slots := 0, locals := 69 } Q
def F3_readItem_111   (q : SQ) : Option (Int32 × SQ) :=
  some ((0 : Int32), q)
set_option maxHeartbeats 400000 in
theorem F3_readItem_111_ok (l : Launch)  {Q : Option Value → SQ → Prop}  (q : SQ) {res : Int32 × SQ} (h : F3_readItem_111   q = some res) (hk9 : Q (some (.int res.1)) res.2) : PF3_readItem l Q 111 [] [] q := by
  unfold F3_readItem_111 at h
  refine sx_iconst (v := (0 : Int32)) dX3_readItem_111 (by decide) ?_
  obtain rfl := Option.some.inj h
  exact sx_zret dX3_readItem_112 rfl (by decide) hk9
def F3_readItem_91   (q : SQ) : Option (Int32 × SQ) :=
  some ((0 : Int32), q)
set_option maxHeartbeats 400000 in
theorem F3_readItem_91_ok (l : Launch)  {Q : Option Value → SQ → Prop}  (q : SQ) {res : Int32 × SQ} (h : F3_readItem_91   q = some res) (hk9 : Q (some (.int res.1)) res.2) : PF3_readItem l Q 91 [] [] q := by
  unfold F3_readItem_91 at h
  refine sx_iconst (v := (0 : Int32)) dX3_readItem_91 (by decide) ?_
  obtain rfl := Option.some.inj h
  exact sx_zret dX3_readItem_92 rfl (by decide) hk9
def F3_readItem_67   (q : SQ) : Option (Int32 × SQ) :=
  some ((0 : Int32), q)
set_option maxHeartbeats 400000 in
theorem F3_readItem_67_ok (l : Launch)  {Q : Option Value → SQ → Prop}  (q : SQ) {res : Int32 × SQ} (h : F3_readItem_67   q = some res) (hk9 : Q (some (.int res.1)) res.2) : PF3_readItem l Q 67 [] [] q := by
  unfold F3_readItem_67 at h
  refine sx_iconst (v := (0 : Int32)) dX3_readItem_67 (by decide) ?_
  obtain rfl := Option.some.inj h
  exact sx_zret dX3_readItem_68 rfl (by decide) hk9
def F3_readItem   (q : SQ) : Option (Int32 × SQ) :=
  (F3_seen   q).bind (fun z1 => (if z1.1 = (-6 : Int32) then (F3_readPay   z1.2).bind (fun z2 => (if sx_bt z2.1 = true then some (z2.1, z2.2) else none)) else (if z1.1 = (-5 : Int32) then some ((0 : Int32), z1.2) else (if z1.1 = (-4 : Int32) then some ((0 : Int32), z1.2) else (if z1.1 = (-3 : Int32) then (if gI z1.2 8 6 = 0 then (F3_readPlan   z1.2).bind (fun z3 => (if z3.1 = 0 then F3_readItem_111   z3.2 else some ((1 : Int32), z3.2))) else F3_readItem_111   z1.2) else (if z1.1 = (-2 : Int32) then (if (4 : Int32) ≤ gI z1.2 10 1 then F3_readItem_91   z1.2 else (F3_readBook   z1.2).bind (fun z4 => (if z4.1 = 0 then F3_readItem_91   z4.2 else some ((1 : Int32), z4.2)))) else (if z1.1 = (-1 : Int32) then (if (8 : Int32) ≤ gI z1.2 10 0 then F3_readItem_67   z1.2 else (F3_readChild   z1.2).bind (fun z5 => (if z5.1 = 0 then F3_readItem_67   z5.2 else some ((1 : Int32), z5.2)))) else some ((0 : Int32), z1.2))))))))
set_option maxHeartbeats 400000 in
theorem F3_readItem_ok (l : Launch)  {Q : Option Value → SQ → Prop}  (q : SQ) {res : Int32 × SQ} (h : F3_readItem   q = some res) (hk9 : Q (some (.int res.1)) res.2) : PF3_readItem l Q 0 [(0, .ref 8)] [] q := by
  unfold F3_readItem at h
  refine sx_aload_n dX3_readItem_0 rfl rfl ?_
  obtain ⟨z1, hz1, h⟩ := sx_bd h
  refine sx_callV (o := 8) (As := []) (rest := []) KSX (F3_seen_ck l   q hz1) mi_X3_seen gw_433 rfl ⟨gw_435, gw_5⟩ shX_8 rfl rfl ⟨Nat.le_of_ble_eq_true rfl, Nat.le_of_ble_eq_true rfl⟩ (Nat.le_of_ble_eq_true rfl) dX3_readItem_1 rfl ?_
  by_cases c9_m6 : z1.1 = (-6 : Int32)
  · replace h := sx_ip h c9_m6
    refine sx_tblIn (tgt := 113) dX3_readItem_4 (by rw [c9_m6]; decide) (by rw [c9_m6]; decide) (by rw [c9_m6]; rfl) (by decide) ?_
    refine sx_aload_n dX3_readItem_113 rfl rfl ?_
    obtain ⟨z2, hz2, h⟩ := sx_bd h
    refine sx_callV (o := 8) (As := []) (rest := []) KSX (F3_readPay_ck l   z1.2 hz2) mi_X3_readPay gw_471 rfl ⟨gw_473, gw_12⟩ shX_8 rfl rfl ⟨Nat.le_of_ble_eq_true rfl, Nat.le_of_ble_eq_true rfl⟩ (Nat.le_of_ble_eq_true rfl) dX3_readItem_114 rfl ?_
    obtain ⟨g9, h⟩ := sx_gd h
    obtain rfl := Option.some.inj h
    exact sx_zret dX3_readItem_117 rfl (sx_bit g9) hk9
  · replace h := sx_in h c9_m6
    by_cases c9_m5 : z1.1 = (-5 : Int32)
    · replace h := sx_ip h c9_m5
      refine sx_tblIn (tgt := 118) dX3_readItem_4 (by rw [c9_m5]; decide) (by rw [c9_m5]; decide) (by rw [c9_m5]; rfl) (by decide) ?_
      refine sx_iconst (v := (0 : Int32)) dX3_readItem_118 (by decide) ?_
      obtain rfl := Option.some.inj h
      exact sx_zret dX3_readItem_119 rfl (by decide) hk9
    · replace h := sx_in h c9_m5
      by_cases c9_m4 : z1.1 = (-4 : Int32)
      · replace h := sx_ip h c9_m4
        refine sx_tblIn (tgt := 118) dX3_readItem_4 (by rw [c9_m4]; decide) (by rw [c9_m4]; decide) (by rw [c9_m4]; rfl) (by decide) ?_
        refine sx_iconst (v := (0 : Int32)) dX3_readItem_118 (by decide) ?_
        obtain rfl := Option.some.inj h
        exact sx_zret dX3_readItem_119 rfl (by decide) hk9
      · replace h := sx_in h c9_m4
        by_cases c9_m3 : z1.1 = (-3 : Int32)
        · replace h := sx_ip h c9_m3
          refine sx_tblIn (tgt := 93) dX3_readItem_4 (by rw [c9_m3]; decide) (by rw [c9_m3]; decide) (by rw [c9_m3]; rfl) (by decide) ?_
          refine sx_aload_n dX3_readItem_93 rfl rfl ?_
          refine sx_getI dX3_readItem_94 (hs := shX_8) (k9 := 6) (hf := rfl) cb_X3 ⟨by decide, rfl, gw_163⟩ ?_
          refine sx_if_ne (tgt := 111) dX3_readItem_97 (by decide) (fun c9 => ?_) (fun c9 => ?_)
          · replace h := sx_in h c9
            refine sx_locs [] rfl ?_
            exact F3_readItem_111_ok l   z1.2 h hk9
          · replace h := sx_ip h c9
            refine sx_aload_n dX3_readItem_100 rfl rfl ?_
            obtain ⟨z3, hz3, h⟩ := sx_bd h
            refine sx_callV (o := 8) (As := []) (rest := []) KSX (F3_readPlan_ck l   z1.2 hz3) mi_X3_readPlan gw_462 rfl ⟨gw_464, gw_10⟩ shX_8 rfl rfl ⟨Nat.le_of_ble_eq_true rfl, Nat.le_of_ble_eq_true rfl⟩ (Nat.le_of_ble_eq_true rfl) dX3_readItem_101 rfl ?_
            refine sx_if_eq (tgt := 111) dX3_readItem_104 (by decide) (fun c9 => ?_) (fun c9 => ?_)
            · replace h := sx_ip h c9
              refine sx_locs [] rfl ?_
              exact F3_readItem_111_ok l   z3.2 h hk9
            · replace h := sx_in h c9
              refine sx_iconst (v := (1 : Int32)) dX3_readItem_107 (by decide) ?_
              refine sx_goto (tgt := 112) dX3_readItem_108 (by decide) ?_
              obtain rfl := Option.some.inj h
              exact sx_zret dX3_readItem_112 rfl (by decide) hk9
        · replace h := sx_in h c9_m3
          by_cases c9_m2 : z1.1 = (-2 : Int32)
          · replace h := sx_ip h c9_m2
            refine sx_tblIn (tgt := 69) dX3_readItem_4 (by rw [c9_m2]; decide) (by rw [c9_m2]; decide) (by rw [c9_m2]; rfl) (by decide) ?_
            refine sx_aload_n dX3_readItem_69 rfl rfl ?_
            refine sx_getR dX3_readItem_70 (hs := shX_8) (k9 := 2) (hf := rfl) cb_X3 ⟨by decide, rfl, gw_158⟩ ?_
            refine sx_getI dX3_readItem_73 (hs := shX_10) (k9 := 1) (hf := rfl) cb_X4 ⟨by decide, rfl, gw_94⟩ ?_
            refine sx_iconst (v := (4 : Int32)) dX3_readItem_76 (by decide) ?_
            refine sx_icmp_ge (tgt := 91) dX3_readItem_77 (by decide) (fun c9 => ?_) (fun c9 => ?_)
            · replace h := sx_ip h c9
              refine sx_locs [] rfl ?_
              exact F3_readItem_91_ok l   z1.2 h hk9
            · replace h := sx_in h c9
              refine sx_aload_n dX3_readItem_80 rfl rfl ?_
              obtain ⟨z4, hz4, h⟩ := sx_bd h
              refine sx_callV (o := 8) (As := []) (rest := []) KSX (F3_readBook_ck l   z1.2 hz4) mi_X3_readBook gw_454 rfl ⟨gw_456, gw_9⟩ shX_8 rfl rfl ⟨Nat.le_of_ble_eq_true rfl, Nat.le_of_ble_eq_true rfl⟩ (Nat.le_of_ble_eq_true rfl) dX3_readItem_81 rfl ?_
              refine sx_if_eq (tgt := 91) dX3_readItem_84 (by decide) (fun c9 => ?_) (fun c9 => ?_)
              · replace h := sx_ip h c9
                refine sx_locs [] rfl ?_
                exact F3_readItem_91_ok l   z4.2 h hk9
              · replace h := sx_in h c9
                refine sx_iconst (v := (1 : Int32)) dX3_readItem_87 (by decide) ?_
                refine sx_goto (tgt := 92) dX3_readItem_88 (by decide) ?_
                obtain rfl := Option.some.inj h
                exact sx_zret dX3_readItem_92 rfl (by decide) hk9
          · replace h := sx_in h c9_m2
            by_cases c9_m1 : z1.1 = (-1 : Int32)
            · replace h := sx_ip h c9_m1
              refine sx_tblIn (tgt := 44) dX3_readItem_4 (by rw [c9_m1]; decide) (by rw [c9_m1]; decide) (by rw [c9_m1]; rfl) (by decide) ?_
              refine sx_aload_n dX3_readItem_44 rfl rfl ?_
              refine sx_getR dX3_readItem_45 (hs := shX_8) (k9 := 2) (hf := rfl) cb_X3 ⟨by decide, rfl, gw_158⟩ ?_
              refine sx_getI dX3_readItem_48 (hs := shX_10) (k9 := 0) (hf := rfl) cb_X4 ⟨by decide, rfl, gw_91⟩ ?_
              refine sx_bipush (v := (8 : Int32)) dX3_readItem_51 (by decide) ?_
              refine sx_icmp_ge (tgt := 67) dX3_readItem_53 (by decide) (fun c9 => ?_) (fun c9 => ?_)
              · replace h := sx_ip h c9
                refine sx_locs [] rfl ?_
                exact F3_readItem_67_ok l   z1.2 h hk9
              · replace h := sx_in h c9
                refine sx_aload_n dX3_readItem_56 rfl rfl ?_
                obtain ⟨z5, hz5, h⟩ := sx_bd h
                refine sx_callV (o := 8) (As := []) (rest := []) KSX (F3_readChild_ck l   z1.2 hz5) mi_X3_readChild gw_441 rfl ⟨gw_443, gw_7⟩ shX_8 rfl rfl ⟨Nat.le_of_ble_eq_true rfl, Nat.le_of_ble_eq_true rfl⟩ (Nat.le_of_ble_eq_true rfl) dX3_readItem_57 rfl ?_
                refine sx_if_eq (tgt := 67) dX3_readItem_60 (by decide) (fun c9 => ?_) (fun c9 => ?_)
                · replace h := sx_ip h c9
                  refine sx_locs [] rfl ?_
                  exact F3_readItem_67_ok l   z5.2 h hk9
                · replace h := sx_in h c9
                  refine sx_iconst (v := (1 : Int32)) dX3_readItem_63 (by decide) ?_
                  refine sx_goto (tgt := 68) dX3_readItem_64 (by decide) ?_
                  obtain rfl := Option.some.inj h
                  exact sx_zret dX3_readItem_68 rfl (by decide) hk9
            · replace h := sx_in h c9_m1
              have nm6 := lv_neT c9_m6 (a := (-6)) (by decide)
              have nm5 := lv_neT c9_m5 (a := (-5)) (by decide)
              have nm4 := lv_neT c9_m4 (a := (-4)) (by decide)
              have nm3 := lv_neT c9_m3 (a := (-3)) (by decide)
              have nm2 := lv_neT c9_m2 (a := (-2)) (by decide)
              have nm1 := lv_neT c9_m1 (a := (-1)) (by decide)
              refine sx_tblOut (tgt := 118) dX3_readItem_4 (by omega) (by decide) ?_
              refine sx_iconst (v := (0 : Int32)) dX3_readItem_118 (by decide) ?_
              obtain rfl := Option.some.inj h
              exact sx_zret dX3_readItem_119 rfl (by decide) hk9
theorem F3_readItem_ck (l : Launch)   (q : SQ) {r : Int32 × SQ} (h : F3_readItem   q = some r) : CK shX vwCl KX tfX l yX3_readItem cX3_readItem 1 ((some .boolean)) 3 69 [.ref 8] q (some (.int r.1)) r.2 :=
  CK.of mi_X3_readItem (Nat.le_of_ble_eq_true rfl) (F3_readItem_ok l   q h ⟨rfl, rfl⟩)
theorem mi_X3_readItems : sx_MI yX3_readItems cX3_readItems 2 ((some .int)) 0 := ⟨by decide, ⟨by decide, by decide, by decide +kernel⟩, gw_351, gw_62⟩
abbrev PF3_readItems (l : Launch) (Q : Option Value → SQ → Prop) : Nat → List (Nat × Value) → List Value → SQ → Prop := XX shX vwCl KX tfX l RX3 cX3_readItems 2 ((some .int)) { frames := 7, cells := 0, slots := 0, locals := 154 } Q
def F3_readItems_57   (q : SQ) : Option (Int32 × SQ) :=
  some ((-1 : Int32), q)
set_option maxHeartbeats 400000 in
theorem F3_readItems_57_ok (l : Launch)  {Q : Option Value → SQ → Prop}  (q : SQ) {res : Int32 × SQ} (h : F3_readItems_57   q = some res) (hk9 : Q (some (.int res.1)) res.2) : PF3_readItems l Q 57 [] [] q := by
  unfold F3_readItems_57 at h
  refine sx_iconst (v := (-1 : Int32)) dX3_readItems_57 (by decide) ?_
  obtain rfl := Option.some.inj h
  exact sx_iret dX3_readItems_58 rfl hk9
def F3_readItems_23b  (v1 : Int32) (q : SQ) : Option ((Int32 × SQ) ⊕ (Int32 × SQ)) :=
  (if (400 : Int32) < v1 then some (.inr ((-1 : Int32), q)) else (F3_seen   q).bind (fun z5 => (if z5.1 = (-8 : Int32) then some (.inr (v1, z5.2)) else (F3_readItem   z5.2).bind (fun z6 => (if z6.1 = 0 then (F3_readItems_57   z6.2).map .inr else (F3_readWord  (-7 : Int32) z6.2).bind (fun z7 => (if z7.1 = 0 then (F3_readItems_57   z7.2).map .inr else sx_let (v1 + (1 : Int32)) (fun x8 => some (.inl (x8, z7.2))))))))))
set_option maxHeartbeats 400000 in
theorem F3_readItems_23b_ok (l : Launch)  {Q : Option Value → SQ → Prop} (v1 : Int32) (q : SQ) {res : (Int32 × SQ) ⊕ (Int32 × SQ)} (h : F3_readItems_23b  v1 q = some res) (hk9 : (∀ a9, res = .inl a9 → PF3_readItems l Q 23 [(0, .ref 8), (1, .int a9.1)] [] a9.2) ∧ (∀ b10, res = .inr b10 → Q (some (.int b10.1)) b10.2)) : PF3_readItems l Q 23 [(0, .ref 8), (1, .int v1)] [] q := by
  unfold F3_readItems_23b at h
  refine sx_iload_n dX3_readItems_23 rfl rfl ?_
  refine sx_sipush (v := (400 : Int32)) dX3_readItems_24 (by decide) ?_
  refine sx_icmp_gt (tgt := 65) dX3_readItems_27 (by decide) (fun c9 => ?_) (fun c9 => ?_)
  · replace h := sx_ip h c9
    refine sx_iconst (v := (-1 : Int32)) dX3_readItems_65 (by decide) ?_
    have hk9 := hk9.2 _ (Option.some.inj h).symm
    exact sx_iret dX3_readItems_66 rfl hk9
  · replace h := sx_in h c9
    refine sx_aload_n dX3_readItems_30 rfl rfl ?_
    obtain ⟨z5, hz5, h⟩ := sx_bd h
    refine sx_callV (o := 8) (As := []) (rest := []) KSX (F3_seen_ck l   q hz5) mi_X3_seen gw_433 rfl ⟨gw_435, gw_5⟩ shX_8 rfl rfl ⟨Nat.le_of_ble_eq_true rfl, Nat.le_of_ble_eq_true rfl⟩ (Nat.le_of_ble_eq_true rfl) dX3_readItems_31 rfl ?_
    refine sx_bipush (v := (-8 : Int32)) dX3_readItems_34 (by decide) ?_
    refine sx_icmp_ne (tgt := 41) dX3_readItems_36 (by decide) (fun c9 => ?_) (fun c9 => ?_)
    · replace h := sx_in h c9
      refine sx_aload_n dX3_readItems_41 rfl rfl ?_
      obtain ⟨z6, hz6, h⟩ := sx_bd h
      refine sx_callV (o := 8) (As := []) (rest := []) KSX (F3_readItem_ck l   z5.2 hz6) mi_X3_readItem gw_437 rfl ⟨gw_439, gw_6⟩ shX_8 rfl rfl ⟨Nat.le_of_ble_eq_true rfl, Nat.le_of_ble_eq_true rfl⟩ (Nat.le_of_ble_eq_true rfl) dX3_readItems_42 rfl ?_
      refine sx_if_eq (tgt := 57) dX3_readItems_45 (by decide) (fun c9 => ?_) (fun c9 => ?_)
      · replace h := sx_ip h c9
        obtain ⟨t9, h, hr9⟩ := sx_mp h
        have hk9 := hk9.2 _ hr9
        refine sx_locs [] rfl ?_
        exact F3_readItems_57_ok l   z6.2 h hk9
      · replace h := sx_in h c9
        refine sx_aload_n dX3_readItems_48 rfl rfl ?_
        refine sx_bipush (v := (-7 : Int32)) dX3_readItems_49 (by decide) ?_
        obtain ⟨z7, hz7, h⟩ := sx_bd h
        refine sx_callV (o := 8) (As := [.int (-7 : Int32)]) (rest := []) KSX (F3_readWord_ck l  (-7 : Int32) z6.2 hz7) mi_X3_readWord gw_466 rfl ⟨gw_468, gw_11⟩ shX_8 rfl rfl ⟨Nat.le_of_ble_eq_true rfl, Nat.le_of_ble_eq_true rfl⟩ (Nat.le_of_ble_eq_true rfl) dX3_readItems_51 rfl ?_
        refine sx_if_ne (tgt := 59) dX3_readItems_54 (by decide) (fun c9 => ?_) (fun c9 => ?_)
        · replace h := sx_in h c9
          obtain ⟨x8, ex8, h⟩ := sx_lt h
          refine sx_iinc (k9 := 1) (v := x8) (ls2 := [(1, .int x8), (0, .ref 8)]) dX3_readItems_59 rfl (by rw [ex8, sx_ofI1]) (by decide) rfl ?_
          refine sx_goto (tgt := 23) dX3_readItems_62 (by decide) ?_
          refine sx_locs [1, 0] rfl ?_
          exact hk9.1 (x8, z7.2) (Option.some.inj h).symm
        · replace h := sx_ip h c9
          obtain ⟨t9, h, hr9⟩ := sx_mp h
          have hk9 := hk9.2 _ hr9
          refine sx_locs [] rfl ?_
          exact F3_readItems_57_ok l   z7.2 h hk9
    · replace h := sx_ip h c9
      refine sx_iload_n dX3_readItems_39 rfl rfl ?_
      have hk9 := hk9.2 _ (Option.some.inj h).symm
      exact sx_iret dX3_readItems_40 rfl hk9
def F3_readItems_23  (v1 : Int32) (q : SQ) : Option (Int32 × SQ) := sx_loop (fun s11 => F3_readItems_23b  s11.1 s11.2) FU (v1, q)
set_option maxHeartbeats 400000 in
theorem F3_readItems_23_ok (l : Launch)  {Q : Option Value → SQ → Prop} (v1 : Int32) (q : SQ) {t : Int32 × SQ} (h : F3_readItems_23  v1 q = some t) (hk9 : Q (some (.int t.1)) t.2) : PF3_readItems l Q 23 [(0, .ref 8), (1, .int v1)] [] q := by
  unfold F3_readItems_23 at h
  have st : ∀ (s : Int32 × SQ) (res : (Int32 × SQ) ⊕ (Int32 × SQ)), F3_readItems_23b  s.1 s.2 = some res → (∀ s2, res = .inl s2 → PF3_readItems l Q 23 [(0, .ref 8), (1, .int s2.1)] [] s2.2) → (∀ t2, res = .inr t2 → Q (some (.int t2.1)) t2.2) → PF3_readItems l Q 23 [(0, .ref 8), (1, .int s.1)] [] s.2 :=
    fun s res hb hi ho => F3_readItems_23b_ok l  s.1 s.2 hb ⟨hi, ho⟩
  have h9 : PF3_readItems l Q 23 [(0, .ref 8), (1, .int v1)] [] q := sx_lp (body := fun s => F3_readItems_23b  s.1 s.2) (P := fun s => PF3_readItems l Q 23 [(0, .ref 8), (1, .int s.1)] [] s.2) (T := fun t => Q (some (.int t.1)) t.2) st FU (v1, q) t h hk9
  exact h9
def F3_readItems   (q : SQ) : Option (Int32 × SQ) :=
  (F3_cut   q).bind (fun z1 => (F4_wipe 10  z1.2).bind (fun z2 => sx_let (sI z2.2 8 6 (0 : Int32)) (fun q3 => sx_let (sI q3 8 5 (0 : Int32)) (fun q4 => F3_readItems_23  (0 : Int32) q4))))
set_option maxHeartbeats 400000 in
theorem F3_readItems_ok (l : Launch)  {Q : Option Value → SQ → Prop}  (q : SQ) {res : Int32 × SQ} (h : F3_readItems   q = some res) (hk9 : Q (some (.int res.1)) res.2) : PF3_readItems l Q 0 [(0, .ref 8)] [] q := by
  unfold F3_readItems at h
  refine sx_aload_n dX3_readItems_0 rfl rfl ?_
  obtain ⟨z1, hz1, h⟩ := sx_bd h
  refine sx_callV (o := 8) (As := []) (rest := []) KSX (F3_cut_ck l   q hz1) mi_X3_cut gw_352 rfl ⟨gw_354, gw_0⟩ shX_8 rfl rfl ⟨Nat.le_of_ble_eq_true rfl, Nat.le_of_ble_eq_true rfl⟩ (Nat.le_of_ble_eq_true rfl) dX3_readItems_1 rfl ?_
  refine sx_aload_n dX3_readItems_4 rfl rfl ?_
  refine sx_getR dX3_readItems_5 (hs := shX_8) (k9 := 2) (hf := rfl) cb_X3 ⟨by decide, rfl, gw_158⟩ ?_
  obtain ⟨z2, hz2, h⟩ := sx_bd h
  refine sx_callV (o := 10) (As := []) (rest := []) KSX (F4_wipe_ck l 10 iSh_10  z1.2 hz2) mi_X4_wipe gw_432 rfl ⟨gw_277, gw_278⟩ shX_10 rfl rfl ⟨Nat.le_of_ble_eq_true rfl, Nat.le_of_ble_eq_true rfl⟩ (Nat.le_of_ble_eq_true rfl) dX3_readItems_8 rfl ?_
  refine sx_aload_n dX3_readItems_11 rfl rfl ?_
  refine sx_iconst (v := (0 : Int32)) dX3_readItems_12 (by decide) ?_
  obtain ⟨q3, eq3, h⟩ := sx_lt h
  refine sx_putZ dX3_readItems_13 (hs := shX_8) (k9 := 6) (hf := rfl) cb_X3 ⟨by decide, rfl, gw_163⟩ rfl (by decide) (by decide) ?_
  refine sx_nmQ eq3 ?_
  refine sx_aload_n dX3_readItems_16 rfl rfl ?_
  refine sx_iconst (v := (0 : Int32)) dX3_readItems_17 (by decide) ?_
  obtain ⟨q4, eq4, h⟩ := sx_lt h
  refine sx_putI dX3_readItems_18 (hs := shX_8) (k9 := 5) (hf := rfl) cb_X3 ⟨by decide, rfl, gw_162⟩ rfl (by decide) ?_
  refine sx_nmQ eq4 ?_
  refine sx_iconst (v := (0 : Int32)) dX3_readItems_21 (by decide) ?_
  refine sx_istore_n (ls2 := [(1, .int (0 : Int32)), (0, .ref 8)]) dX3_readItems_22 rfl (by decide) rfl ?_
  refine sx_locs [1, 0] rfl ?_
  exact F3_readItems_23_ok l  (0 : Int32) q4 h hk9
theorem F3_readItems_ck (l : Launch)   (q : SQ) {r : Int32 × SQ} (h : F3_readItems   q = some r) : CK shX vwCl KX tfX l yX3_readItems cX3_readItems 2 ((some .int)) 7 154 [.ref 8] q (some (.int r.1)) r.2 :=
  CK.of mi_X3_readItems (Nat.le_of_ble_eq_true rfl) (F3_readItems_ok l   q h ⟨rfl, rfl⟩)
theorem mi_X3_fault : sx_MI yX3_fault cX3_fault 1 ((some .int)) 0 := ⟨by decide, ⟨by decide, by decide, by decide +kernel⟩, gw_478, gw_62⟩
abbrev PF3_fault (l : Launch) (Q : Option Value → SQ → Prop) : Nat → List (Nat × Value) → List Value → SQ → Prop := XX shX vwCl KX tfX l RX3 cX3_fault 1 ((some .int)) { frames := 0, cells := 0, slots := 0, locals := 0 } Q
def F3_fault   (q : SQ) : Option (Int32 × SQ) :=
  (if (401 : Int32) ≤ gI q 8 5 then some (gI q 8 0, q) else (if sx_ix (gI q 8 5) 401 = true then some (gI q 18 (gI q 8 5).toNatClampNeg, q) else none))
set_option maxHeartbeats 400000 in
theorem F3_fault_ok (l : Launch)  {Q : Option Value → SQ → Prop}  (q : SQ) {res : Int32 × SQ} (h : F3_fault   q = some res) (hk9 : Q (some (.int res.1)) res.2) : PF3_fault l Q 0 [(0, .ref 8)] [] q := by
  unfold F3_fault at h
  refine sx_aload_n dX3_fault_0 rfl rfl ?_
  refine sx_getI dX3_fault_1 (hs := shX_8) (k9 := 5) (hf := rfl) cb_X3 ⟨by decide, rfl, gw_162⟩ ?_
  refine sx_aload_n dX3_fault_4 rfl rfl ?_
  refine sx_getR dX3_fault_5 (hs := shX_8) (k9 := 4) (hf := rfl) cb_X3 ⟨by decide, rfl, gw_161⟩ ?_
  refine sx_alen (v := (401 : Int32)) dX3_fault_8 shX_18 (fun _ _ => rfl) (by decide) ?_
  refine sx_icmp_ge (tgt := 24) dX3_fault_9 (by decide) (fun c9 => ?_) (fun c9 => ?_)
  · replace h := sx_ip h c9
    refine sx_aload_n dX3_fault_24 rfl rfl ?_
    refine sx_getI dX3_fault_25 (hs := shX_8) (k9 := 0) (hf := rfl) cb_X3 ⟨by decide, rfl, gw_155⟩ ?_
    obtain rfl := Option.some.inj h
    exact sx_iret dX3_fault_28 rfl hk9
  · replace h := sx_in h c9
    refine sx_aload_n dX3_fault_12 rfl rfl ?_
    refine sx_getR dX3_fault_13 (hs := shX_8) (k9 := 4) (hf := rfl) cb_X3 ⟨by decide, rfl, gw_161⟩ ?_
    refine sx_aload_n dX3_fault_16 rfl rfl ?_
    refine sx_getI dX3_fault_17 (hs := shX_8) (k9 := 5) (hf := rfl) cb_X3 ⟨by decide, rfl, gw_162⟩ ?_
    obtain ⟨g9, h⟩ := sx_gd h
    refine sx_iald dX3_fault_20 shX_18 (fun _ _ => rfl) (sx_ix_in g9) ?_
    refine sx_goto (tgt := 28) dX3_fault_21 (by decide) ?_
    obtain rfl := Option.some.inj h
    exact sx_iret dX3_fault_28 rfl hk9
theorem F3_fault_ck (l : Launch)   (q : SQ) {r : Int32 × SQ} (h : F3_fault   q = some r) : CK shX vwCl KX tfX l yX3_fault cX3_fault 1 ((some .int)) 0 0 [.ref 8] q (some (.int r.1)) r.2 :=
  CK.of mi_X3_fault (Nat.le_of_ble_eq_true rfl) (F3_fault_ok l   q h ⟨rfl, rfl⟩)
theorem mi_X4_copyOf : sx_MI yX4_copyOf cX4_copyOf 2 (none) 1 := ⟨by decide, ⟨by decide, by decide, by decide +kernel⟩, gw_482, gw_61⟩
abbrev PF4_copyOf (l : Launch) (Q : Option Value → SQ → Prop) : Nat → List (Nat × Value) → List Value → SQ → Prop := XX shX vwCl KX tfX l RX4 cX4_copyOf 2 (none) { frames := 1, cells := 0, slots := 0, locals := 40 } Q
def F4_copyOf (k : Nat) (r1 : Nat)  (q : SQ) : Option (Unit × SQ) :=
  sx_let (sI q k 0 (gI q r1 0)) (fun q1 => sx_let (sI q1 k 1 (gI q1 r1 1)) (fun q2 => (F4_schedule k (gI q2 r1 8) (gI q2 r1 9) (gI q2 r1 11) (gI q2 r1 10) q2).bind (fun z3 => sx_let (sA z3.2 (k + 1) (va_cpy (z3.2.1 (r1 + 1)) (z3.2.1 (k + 1)) 0 0 8)) (fun q4 => sx_let (sA q4 (k + 2) (va_cpy (q4.1 (r1 + 2)) (q4.1 (k + 2)) 0 0 8)) (fun q5 => sx_let (sA q5 (k + 3) (va_cpy (q5.1 (r1 + 3)) (q5.1 (k + 3)) 0 0 8)) (fun q6 => sx_let (sA q6 (k + 4) (va_cpy (q6.1 (r1 + 4)) (q6.1 (k + 4)) 0 0 4)) (fun q7 => sx_let (sA q7 (k + 5) (va_cpy (q7.1 (r1 + 5)) (q7.1 (k + 5)) 0 0 4)) (fun q8 => sx_let (sA q8 (k + 6) (va_cpy (q8.1 (r1 + 6)) (q8.1 (k + 6)) 0 0 4)) (fun q9 => some ((), q9))))))))))
set_option maxHeartbeats 400000 in
theorem F4_copyOf_ok (l : Launch) (k : Nat) (hk : iSh k) (r1 : Nat) (hr1 : iSh r1) {Q : Option Value → SQ → Prop}  (q : SQ) {res : Unit × SQ} (h : F4_copyOf k r1  q = some res) (hk9 : Q none res.2) : PF4_copyOf l Q 0 [(0, .ref k), (1, .ref r1)] [] q := by
  unfold F4_copyOf at h
  refine sx_aload_n dX4_copyOf_0 rfl rfl ?_
  refine sx_aload_n dX4_copyOf_1 rfl rfl ?_
  refine sx_getI dX4_copyOf_2 (hs := hr1.1) (k9 := 0) (hf := rfl) cb_X4 ⟨by decide, rfl, gw_88⟩ ?_
  obtain ⟨q1, eq1, h⟩ := sx_lt h
  refine sx_putI dX4_copyOf_5 (hs := hk.1) (k9 := 0) (hf := rfl) cb_X4 ⟨by decide, rfl, gw_88⟩ rfl (by decide) ?_
  refine sx_nmQ eq1 ?_
  refine sx_aload_n dX4_copyOf_8 rfl rfl ?_
  refine sx_aload_n dX4_copyOf_9 rfl rfl ?_
  refine sx_getI dX4_copyOf_10 (hs := hr1.1) (k9 := 1) (hf := rfl) cb_X4 ⟨by decide, rfl, gw_92⟩ ?_
  obtain ⟨q2, eq2, h⟩ := sx_lt h
  refine sx_putI dX4_copyOf_13 (hs := hk.1) (k9 := 1) (hf := rfl) cb_X4 ⟨by decide, rfl, gw_92⟩ rfl (by decide) ?_
  refine sx_nmQ eq2 ?_
  refine sx_aload_n dX4_copyOf_16 rfl rfl ?_
  refine sx_aload_n dX4_copyOf_17 rfl rfl ?_
  refine sx_getI dX4_copyOf_18 (hs := hr1.1) (k9 := 8) (hf := rfl) cb_X4 ⟨by decide, rfl, gw_112⟩ ?_
  refine sx_aload_n dX4_copyOf_21 rfl rfl ?_
  refine sx_getI dX4_copyOf_22 (hs := hr1.1) (k9 := 9) (hf := rfl) cb_X4 ⟨by decide, rfl, gw_114⟩ ?_
  refine sx_aload_n dX4_copyOf_25 rfl rfl ?_
  refine sx_getI dX4_copyOf_26 (hs := hr1.1) (k9 := 11) (hf := rfl) cb_X4 ⟨by decide, rfl, gw_118⟩ ?_
  refine sx_aload_n dX4_copyOf_29 rfl rfl ?_
  refine sx_getI dX4_copyOf_30 (hs := hr1.1) (k9 := 10) (hf := rfl) cb_X4 ⟨by decide, rfl, gw_116⟩ ?_
  obtain ⟨z3, hz3, h⟩ := sx_bd h
  refine sx_callV (o := k) (As := [.int (gI q2 r1 8), .int (gI q2 r1 9), .int (gI q2 r1 11), .int (gI q2 r1 10)]) (rest := []) KSX (F4_schedule_ck l k hk (gI q2 r1 8) (gI q2 r1 9) (gI q2 r1 11) (gI q2 r1 10) q2 hz3) mi_X4_schedule gw_280 rfl ⟨gw_281, gw_282⟩ hk.1 rfl rfl ⟨Nat.le_of_ble_eq_true rfl, Nat.le_of_ble_eq_true rfl⟩ (Nat.le_of_ble_eq_true rfl) dX4_copyOf_33 rfl ?_
  refine sx_aload_n dX4_copyOf_36 rfl rfl ?_
  refine sx_getR dX4_copyOf_37 (hs := hr1.1) (k9 := 2) (hf := rfl) cb_X4 ⟨by decide, rfl, gw_96⟩ ?_
  refine sx_iconst (v := (0 : Int32)) dX4_copyOf_40 (by decide) ?_
  refine sx_aload_n dX4_copyOf_41 rfl rfl ?_
  refine sx_getR dX4_copyOf_42 (hs := hk.1) (k9 := 2) (hf := rfl) cb_X4 ⟨by decide, rfl, gw_96⟩ ?_
  refine sx_iconst (v := (0 : Int32)) dX4_copyOf_45 (by decide) ?_
  refine sx_bipush (v := (8 : Int32)) dX4_copyOf_46 (by decide) ?_
  obtain ⟨q4, eq4, h⟩ := sx_lt h
  refine sx_copyC (n9 := 8) dX4_copyOf_48 gw_483 gw_copy hr1.2.1 hk.2.1 (fun _ _ => rfl) (by decide) (by decide) (by decide) (by decide) (Nat.le_of_ble_eq_true rfl) (Nat.le_of_ble_eq_true rfl) ?_
  refine sx_nmQ eq4 ?_
  refine sx_aload_n dX4_copyOf_51 rfl rfl ?_
  refine sx_getR dX4_copyOf_52 (hs := hr1.1) (k9 := 3) (hf := rfl) cb_X4 ⟨by decide, rfl, gw_99⟩ ?_
  refine sx_iconst (v := (0 : Int32)) dX4_copyOf_55 (by decide) ?_
  refine sx_aload_n dX4_copyOf_56 rfl rfl ?_
  refine sx_getR dX4_copyOf_57 (hs := hk.1) (k9 := 3) (hf := rfl) cb_X4 ⟨by decide, rfl, gw_99⟩ ?_
  refine sx_iconst (v := (0 : Int32)) dX4_copyOf_60 (by decide) ?_
  refine sx_bipush (v := (8 : Int32)) dX4_copyOf_61 (by decide) ?_
  obtain ⟨q5, eq5, h⟩ := sx_lt h
  refine sx_copyC (n9 := 8) dX4_copyOf_63 gw_483 gw_copy hr1.2.2.1 hk.2.2.1 (fun _ _ => rfl) (by decide) (by decide) (by decide) (by decide) (Nat.le_of_ble_eq_true rfl) (Nat.le_of_ble_eq_true rfl) ?_
  refine sx_nmQ eq5 ?_
  refine sx_aload_n dX4_copyOf_66 rfl rfl ?_
  refine sx_getR dX4_copyOf_67 (hs := hr1.1) (k9 := 4) (hf := rfl) cb_X4 ⟨by decide, rfl, gw_101⟩ ?_
  refine sx_iconst (v := (0 : Int32)) dX4_copyOf_70 (by decide) ?_
  refine sx_aload_n dX4_copyOf_71 rfl rfl ?_
  refine sx_getR dX4_copyOf_72 (hs := hk.1) (k9 := 4) (hf := rfl) cb_X4 ⟨by decide, rfl, gw_101⟩ ?_
  refine sx_iconst (v := (0 : Int32)) dX4_copyOf_75 (by decide) ?_
  refine sx_bipush (v := (8 : Int32)) dX4_copyOf_76 (by decide) ?_
  obtain ⟨q6, eq6, h⟩ := sx_lt h
  refine sx_copyC (n9 := 8) dX4_copyOf_78 gw_483 gw_copy hr1.2.2.2.1 hk.2.2.2.1 (fun _ _ => rfl) (by decide) (by decide) (by decide) (by decide) (Nat.le_of_ble_eq_true rfl) (Nat.le_of_ble_eq_true rfl) ?_
  refine sx_nmQ eq6 ?_
  refine sx_aload_n dX4_copyOf_81 rfl rfl ?_
  refine sx_getR dX4_copyOf_82 (hs := hr1.1) (k9 := 5) (hf := rfl) cb_X4 ⟨by decide, rfl, gw_104⟩ ?_
  refine sx_iconst (v := (0 : Int32)) dX4_copyOf_85 (by decide) ?_
  refine sx_aload_n dX4_copyOf_86 rfl rfl ?_
  refine sx_getR dX4_copyOf_87 (hs := hk.1) (k9 := 5) (hf := rfl) cb_X4 ⟨by decide, rfl, gw_104⟩ ?_
  refine sx_iconst (v := (0 : Int32)) dX4_copyOf_90 (by decide) ?_
  refine sx_iconst (v := (4 : Int32)) dX4_copyOf_91 (by decide) ?_
  obtain ⟨q7, eq7, h⟩ := sx_lt h
  refine sx_copyC (n9 := 4) dX4_copyOf_92 gw_483 gw_copy hr1.2.2.2.2.1 hk.2.2.2.2.1 (fun _ _ => rfl) (by decide) (by decide) (by decide) (by decide) (Nat.le_of_ble_eq_true rfl) (Nat.le_of_ble_eq_true rfl) ?_
  refine sx_nmQ eq7 ?_
  refine sx_aload_n dX4_copyOf_95 rfl rfl ?_
  refine sx_getR dX4_copyOf_96 (hs := hr1.1) (k9 := 6) (hf := rfl) cb_X4 ⟨by decide, rfl, gw_106⟩ ?_
  refine sx_iconst (v := (0 : Int32)) dX4_copyOf_99 (by decide) ?_
  refine sx_aload_n dX4_copyOf_100 rfl rfl ?_
  refine sx_getR dX4_copyOf_101 (hs := hk.1) (k9 := 6) (hf := rfl) cb_X4 ⟨by decide, rfl, gw_106⟩ ?_
  refine sx_iconst (v := (0 : Int32)) dX4_copyOf_104 (by decide) ?_
  refine sx_iconst (v := (4 : Int32)) dX4_copyOf_105 (by decide) ?_
  obtain ⟨q8, eq8, h⟩ := sx_lt h
  refine sx_copyC (n9 := 4) dX4_copyOf_106 gw_483 gw_copy hr1.2.2.2.2.2.1 hk.2.2.2.2.2.1 (fun _ _ => rfl) (by decide) (by decide) (by decide) (by decide) (Nat.le_of_ble_eq_true rfl) (Nat.le_of_ble_eq_true rfl) ?_
  refine sx_nmQ eq8 ?_
  refine sx_aload_n dX4_copyOf_109 rfl rfl ?_
  refine sx_getR dX4_copyOf_110 (hs := hr1.1) (k9 := 7) (hf := rfl) cb_X4 ⟨by decide, rfl, gw_109⟩ ?_
  refine sx_iconst (v := (0 : Int32)) dX4_copyOf_113 (by decide) ?_
  refine sx_aload_n dX4_copyOf_114 rfl rfl ?_
  refine sx_getR dX4_copyOf_115 (hs := hk.1) (k9 := 7) (hf := rfl) cb_X4 ⟨by decide, rfl, gw_109⟩ ?_
  refine sx_iconst (v := (0 : Int32)) dX4_copyOf_118 (by decide) ?_
  refine sx_iconst (v := (4 : Int32)) dX4_copyOf_119 (by decide) ?_
  obtain ⟨q9, eq9, h⟩ := sx_lt h
  refine sx_copyC (n9 := 4) dX4_copyOf_120 gw_483 gw_copy hr1.2.2.2.2.2.2 hk.2.2.2.2.2.2 (fun _ _ => rfl) (by decide) (by decide) (by decide) (by decide) (Nat.le_of_ble_eq_true rfl) (Nat.le_of_ble_eq_true rfl) ?_
  refine sx_nmQ eq9 ?_
  obtain rfl := Option.some.inj h
  exact sx_vret dX4_copyOf_123 rfl hk9
theorem F4_copyOf_ck (l : Launch) (k : Nat) (hk : iSh k) (r1 : Nat) (hr1 : iSh r1)  (q : SQ) {r : Unit × SQ} (h : F4_copyOf k r1  q = some r) : CK shX vwCl KX tfX l yX4_copyOf cX4_copyOf 2 (none) 1 40 [.ref k, .ref r1] q none r.2 :=
  CK.of mi_X4_copyOf (Nat.le_of_ble_eq_true rfl) (F4_copyOf_ok l k hk r1 hr1  q h ⟨rfl, rfl⟩)
theorem mi_X0_begin : sx_MI yX0_begin cX0_begin 4 (none) 2 := ⟨by decide, ⟨by decide, by decide, by decide +kernel⟩, gw_291, gw_63⟩
abbrev PF0_begin (l : Launch) (Q : Option Value → SQ → Prop) : Nat → List (Nat × Value) → List Value → SQ → Prop := XX shX vwCl KX tfX l RX0 cX0_begin 4 (none) { frames := 0, cells := 0, slots := 0, locals := 0 } Q
def F0_begin_13b (k : Nat) (r1 : Nat) (v3 : Int32) (q : SQ) : Option ((Int32 × SQ) ⊕ (Unit × SQ)) :=
  (if (8 : Int32) ≤ v3 then some (.inr ((), q)) else (if sx_ix v3 8 = true then (if sx_ix v3 8 = true then sx_let (sI q (k + 1) v3.toNatClampNeg (gI q (r1 + 1) v3.toNatClampNeg)) (fun q3 => (if sx_ix v3 8 = true then sx_let (sI q3 (k + 2) v3.toNatClampNeg (0 : Int32)) (fun q4 => (if sx_ix v3 8 = true then sx_let (sI q4 (k + 3) v3.toNatClampNeg (0 : Int32)) (fun q5 => sx_let (v3 + (1 : Int32)) (fun x6 => some (.inl (x6, q5)))) else none)) else none)) else none) else none))
set_option maxHeartbeats 400000 in
theorem F0_begin_13b_ok (l : Launch) (k : Nat) (hk : iCo k) (r1 : Nat) (hr1 : iSh r1) {Q : Option Value → SQ → Prop} (v3 : Int32) (q : SQ) {res : (Int32 × SQ) ⊕ (Unit × SQ)} (h : F0_begin_13b k r1 v3 q = some res) (hk9 : (∀ a7, res = .inl a7 → PF0_begin l Q 13 [(0, .ref k), (1, .ref r1), (3, .int a7.1)] [] a7.2) ∧ (∀ b8, res = .inr b8 → Q none b8.2)) : PF0_begin l Q 13 [(0, .ref k), (1, .ref r1), (3, .int v3)] [] q := by
  unfold F0_begin_13b at h
  refine sx_iload_n dX0_begin_13 rfl rfl ?_
  refine sx_bipush (v := (8 : Int32)) dX0_begin_14 (by decide) ?_
  refine sx_icmp_ge (tgt := 51) dX0_begin_16 (by decide) (fun c9 => ?_) (fun c9 => ?_)
  · replace h := sx_ip h c9
    have hk9 := hk9.2 _ (Option.some.inj h).symm
    exact sx_vret dX0_begin_51 rfl hk9
  · replace h := sx_in h c9
    refine sx_aload_n dX0_begin_19 rfl rfl ?_
    refine sx_getR dX0_begin_20 (hs := hk.1) (k9 := 2) (hf := rfl) cb_X0 ⟨by decide, rfl, gw_189⟩ ?_
    refine sx_iload_n dX0_begin_23 rfl rfl ?_
    refine sx_aload_n dX0_begin_24 rfl rfl ?_
    refine sx_getR dX0_begin_25 (hs := hr1.1) (k9 := 2) (hf := rfl) cb_X4 ⟨by decide, rfl, gw_97⟩ ?_
    refine sx_iload_n dX0_begin_28 rfl rfl ?_
    obtain ⟨g9, h⟩ := sx_gd h
    refine sx_iald dX0_begin_29 hr1.2.1 (fun _ _ => rfl) (sx_ix_in g9) ?_
    obtain ⟨g9, h⟩ := sx_gd h
    obtain ⟨q3, eq3, h⟩ := sx_lt h
    refine sx_iast dX0_begin_30 hk.2.1 (fun _ _ => rfl) (sx_ix_in g9) ?_
    refine sx_nmQ eq3 ?_
    refine sx_aload_n dX0_begin_31 rfl rfl ?_
    refine sx_getR dX0_begin_32 (hs := hk.1) (k9 := 3) (hf := rfl) cb_X0 ⟨by decide, rfl, gw_191⟩ ?_
    refine sx_iload_n dX0_begin_35 rfl rfl ?_
    refine sx_iconst (v := (0 : Int32)) dX0_begin_36 (by decide) ?_
    obtain ⟨g9, h⟩ := sx_gd h
    obtain ⟨q4, eq4, h⟩ := sx_lt h
    refine sx_iast dX0_begin_37 hk.2.2.1 (fun _ _ => rfl) (sx_ix_in g9) ?_
    refine sx_nmQ eq4 ?_
    refine sx_aload_n dX0_begin_38 rfl rfl ?_
    refine sx_getR dX0_begin_39 (hs := hk.1) (k9 := 4) (hf := rfl) cb_X0 ⟨by decide, rfl, gw_193⟩ ?_
    refine sx_iload_n dX0_begin_42 rfl rfl ?_
    refine sx_iconst (v := (0 : Int32)) dX0_begin_43 (by decide) ?_
    obtain ⟨g9, h⟩ := sx_gd h
    obtain ⟨q5, eq5, h⟩ := sx_lt h
    refine sx_iast dX0_begin_44 hk.2.2.2 (fun _ _ => rfl) (sx_ix_in g9) ?_
    refine sx_nmQ eq5 ?_
    obtain ⟨x6, ex6, h⟩ := sx_lt h
    refine sx_iinc (k9 := 2) (v := x6) (ls2 := [(3, .int x6), (0, .ref k), (1, .ref r1)]) dX0_begin_45 rfl (by rw [ex6, sx_ofI1]) (by decide) rfl ?_
    refine sx_goto (tgt := 13) dX0_begin_48 (by decide) ?_
    refine sx_locs [1, 2, 0] rfl ?_
    exact hk9.1 (x6, q5) (Option.some.inj h).symm
def F0_begin_13 (k : Nat) (r1 : Nat) (v3 : Int32) (q : SQ) : Option (Unit × SQ) := sx_loop (fun s9 => F0_begin_13b k r1 s9.1 s9.2) FU (v3, q)
set_option maxHeartbeats 400000 in
theorem F0_begin_13_ok (l : Launch) (k : Nat) (hk : iCo k) (r1 : Nat) (hr1 : iSh r1) {Q : Option Value → SQ → Prop} (v3 : Int32) (q : SQ) {t : Unit × SQ} (h : F0_begin_13 k r1 v3 q = some t) (hk9 : Q none t.2) : PF0_begin l Q 13 [(0, .ref k), (1, .ref r1), (3, .int v3)] [] q := by
  unfold F0_begin_13 at h
  have st : ∀ (s : Int32 × SQ) (res : (Int32 × SQ) ⊕ (Unit × SQ)), F0_begin_13b k r1 s.1 s.2 = some res → (∀ s2, res = .inl s2 → PF0_begin l Q 13 [(0, .ref k), (1, .ref r1), (3, .int s2.1)] [] s2.2) → (∀ t2, res = .inr t2 → Q none t2.2) → PF0_begin l Q 13 [(0, .ref k), (1, .ref r1), (3, .int s.1)] [] s.2 :=
    fun s res hb hi ho => F0_begin_13b_ok l k hk r1 hr1 s.1 s.2 hb ⟨hi, ho⟩
  have h9 : PF0_begin l Q 13 [(0, .ref k), (1, .ref r1), (3, .int v3)] [] q := sx_lp (body := fun s => F0_begin_13b k r1 s.1 s.2) (P := fun s => PF0_begin l Q 13 [(0, .ref k), (1, .ref r1), (3, .int s.1)] [] s.2) (T := fun t => Q none t.2) st FU (v3, q) t h hk9
  exact h9
def F0_begin (k : Nat) (r1 : Nat) (v2 : Int32) (q : SQ) : Option (Unit × SQ) :=
  sx_let (sI q k 0 v2) (fun q1 => sx_let (sI q1 k 1 (100 : Int32)) (fun q2 => F0_begin_13 k r1 (0 : Int32) q2))
set_option maxHeartbeats 400000 in
theorem F0_begin_ok (l : Launch) (k : Nat) (hk : iCo k) (r1 : Nat) (hr1 : iSh r1) {Q : Option Value → SQ → Prop} (v2 : Int32) (q : SQ) {res : Unit × SQ} (h : F0_begin k r1 v2 q = some res) (hk9 : Q none res.2) : PF0_begin l Q 0 [(0, .ref k), (1, .ref r1), (2, .int v2)] [] q := by
  unfold F0_begin at h
  refine sx_aload_n dX0_begin_0 rfl rfl ?_
  refine sx_iload_n dX0_begin_1 rfl rfl ?_
  obtain ⟨q1, eq1, h⟩ := sx_lt h
  refine sx_putI dX0_begin_2 (hs := hk.1) (k9 := 0) (hf := rfl) cb_X0 ⟨by decide, rfl, gw_185⟩ rfl (by decide) ?_
  refine sx_nmQ eq1 ?_
  refine sx_aload_n dX0_begin_5 rfl rfl ?_
  refine sx_bipush (v := (100 : Int32)) dX0_begin_6 (by decide) ?_
  obtain ⟨q2, eq2, h⟩ := sx_lt h
  refine sx_putI dX0_begin_8 (hs := hk.1) (k9 := 1) (hf := rfl) cb_X0 ⟨by decide, rfl, gw_187⟩ rfl (by decide) ?_
  refine sx_nmQ eq2 ?_
  refine sx_iconst (v := (0 : Int32)) dX0_begin_11 (by decide) ?_
  refine sx_istore_n (ls2 := [(3, .int (0 : Int32)), (0, .ref k), (1, .ref r1), (2, .int v2)]) dX0_begin_12 rfl (by decide) rfl ?_
  refine sx_locs [1, 2, 0] rfl ?_
  exact F0_begin_13_ok l k hk r1 hr1 (0 : Int32) q2 h hk9
theorem F0_begin_ck (l : Launch) (k : Nat) (hk : iCo k) (r1 : Nat) (hr1 : iSh r1) (v2 : Int32) (q : SQ) {r : Unit × SQ} (h : F0_begin k r1 v2 q = some r) : CK shX vwCl KX tfX l yX0_begin cX0_begin 4 (none) 0 0 [.ref k, .ref r1, .int v2] q none r.2 :=
  CK.of mi_X0_begin (Nat.le_of_ble_eq_true rfl) (F0_begin_ok l k hk r1 hr1 v2 q h ⟨rfl, rfl⟩)
theorem mi_X6_chart : sx_MI yX6_chart cX6_chart 2 ((some .int)) 0 := ⟨by decide, ⟨by decide, by decide, by decide +kernel⟩, gw_347, gw_60⟩
abbrev PF6_chart (l : Launch) (Q : Option Value → SQ → Prop) : Nat → List (Nat × Value) → List Value → SQ → Prop := XX shX vwCl KX tfX l RX6 cX6_chart 2 ((some .int)) { frames := 8, cells := 0, slots := 0, locals := 175 } Q
def F6_chart   (q : SQ) : Option (Int32 × SQ) :=
  (F3_readItems   q).bind (fun z1 => sx_let z1.1 (fun x2 => (if 0 ≤ x2 then sx_let (sI z1.2 8 0 (0 : Int32)) (fun q3 => (F4_copyOf 1 10  q3).bind (fun z4 => (F0_begin 19 1 (0 : Int32) z4.2).bind (fun z5 => sx_let (sI z5.2 24 0 (0 : Int32)) (fun q6 => sx_let (sI q6 29 0 (0 : Int32)) (fun q7 => some (x2, q7)))))) else (F3_fault   z1.2).bind (fun z8 => some ((-10 : Int32) - z8.1, z8.2)))))
set_option maxHeartbeats 400000 in
theorem F6_chart_ok (l : Launch)  {Q : Option Value → SQ → Prop}  (q : SQ) {res : Int32 × SQ} (h : F6_chart   q = some res) (hk9 : Q (some (.int res.1)) res.2) : PF6_chart l Q 0 [(0, .ref 0)] [] q := by
  unfold F6_chart at h
  refine sx_aload_n dX6_chart_0 rfl rfl ?_
  refine sx_getR dX6_chart_1 (hs := shX_0) (k9 := 1) (hf := rfl) cb_X6 ⟨by decide, rfl, gw_293⟩ ?_
  obtain ⟨z1, hz1, h⟩ := sx_bd h
  refine sx_callV (o := 8) (As := []) (rest := []) KSX (F3_readItems_ck l   q hz1) mi_X3_readItems gw_348 rfl ⟨gw_349, gw_350⟩ shX_8 rfl rfl ⟨Nat.le_of_ble_eq_true rfl, Nat.le_of_ble_eq_true rfl⟩ (Nat.le_of_ble_eq_true rfl) dX6_chart_4 rfl ?_
  obtain ⟨x2, ex2, h⟩ := sx_lt h
  refine sx_nmI ex2 ?_
  refine sx_istore_n (ls2 := [(1, .int x2), (0, .ref 0)]) dX6_chart_7 rfl (by decide) rfl ?_
  refine sx_iload_n dX6_chart_8 rfl rfl ?_
  refine sx_if_ge (tgt := 23) dX6_chart_9 (by decide) (fun c9 => ?_) (fun c9 => ?_)
  · replace h := sx_ip h c9
    refine sx_aload_n dX6_chart_23 rfl rfl ?_
    refine sx_getR dX6_chart_24 (hs := shX_0) (k9 := 1) (hf := rfl) cb_X6 ⟨by decide, rfl, gw_293⟩ ?_
    refine sx_iconst (v := (0 : Int32)) dX6_chart_27 (by decide) ?_
    obtain ⟨q3, eq3, h⟩ := sx_lt h
    refine sx_putI dX6_chart_28 (hs := shX_8) (k9 := 0) (hf := rfl) cb_X3 ⟨by decide, rfl, gw_156⟩ rfl (by decide) ?_
    refine sx_nmQ eq3 ?_
    refine sx_aload_n dX6_chart_31 rfl rfl ?_
    refine sx_getR dX6_chart_32 (hs := shX_0) (k9 := 0) (hf := rfl) cb_X6 ⟨by decide, rfl, gw_292⟩ ?_
    refine sx_aload_n dX6_chart_35 rfl rfl ?_
    refine sx_getR dX6_chart_36 (hs := shX_0) (k9 := 1) (hf := rfl) cb_X6 ⟨by decide, rfl, gw_293⟩ ?_
    refine sx_getR dX6_chart_39 (hs := shX_8) (k9 := 2) (hf := rfl) cb_X3 ⟨by decide, rfl, gw_159⟩ ?_
    obtain ⟨z4, hz4, h⟩ := sx_bd h
    refine sx_callV (o := 1) (As := [.ref 10]) (rest := []) KSX (F4_copyOf_ck l 1 iSh_1 10 iSh_10  q3 hz4) mi_X4_copyOf gw_479 rfl ⟨gw_480, gw_481⟩ shX_1 rfl rfl ⟨Nat.le_of_ble_eq_true rfl, Nat.le_of_ble_eq_true rfl⟩ (Nat.le_of_ble_eq_true rfl) dX6_chart_42 rfl ?_
    refine sx_aload_n dX6_chart_45 rfl rfl ?_
    refine sx_getR dX6_chart_46 (hs := shX_0) (k9 := 2) (hf := rfl) cb_X6 ⟨by decide, rfl, gw_294⟩ ?_
    refine sx_aload_n dX6_chart_49 rfl rfl ?_
    refine sx_getR dX6_chart_50 (hs := shX_0) (k9 := 0) (hf := rfl) cb_X6 ⟨by decide, rfl, gw_292⟩ ?_
    refine sx_iconst (v := (0 : Int32)) dX6_chart_53 (by decide) ?_
    obtain ⟨z5, hz5, h⟩ := sx_bd h
    refine sx_callV (o := 19) (As := [.ref 1, .int (0 : Int32)]) (rest := []) KSX (F0_begin_ck l 19 iCo_19 1 iSh_1 (0 : Int32) z4.2 hz5) mi_X0_begin gw_288 rfl ⟨gw_289, gw_290⟩ shX_19 rfl rfl ⟨Nat.le_of_ble_eq_true rfl, Nat.le_of_ble_eq_true rfl⟩ (Nat.le_of_ble_eq_true rfl) dX6_chart_54 rfl ?_
    refine sx_aload_n dX6_chart_57 rfl rfl ?_
    refine sx_getR dX6_chart_58 (hs := shX_0) (k9 := 4) (hf := rfl) cb_X6 ⟨by decide, rfl, gw_296⟩ ?_
    refine sx_iconst (v := (0 : Int32)) dX6_chart_61 (by decide) ?_
    obtain ⟨q6, eq6, h⟩ := sx_lt h
    refine sx_putZ dX6_chart_62 (hs := shX_24) (k9 := 0) (hf := rfl) cb_X1 ⟨by decide, rfl, gw_215⟩ rfl (by decide) (by decide) ?_
    refine sx_nmQ eq6 ?_
    refine sx_aload_n dX6_chart_65 rfl rfl ?_
    refine sx_getR dX6_chart_66 (hs := shX_0) (k9 := 5) (hf := rfl) cb_X6 ⟨by decide, rfl, gw_297⟩ ?_
    refine sx_iconst (v := (0 : Int32)) dX6_chart_69 (by decide) ?_
    obtain ⟨q7, eq7, h⟩ := sx_lt h
    refine sx_putZ dX6_chart_70 (hs := shX_29) (k9 := 0) (hf := rfl) cb_X1 ⟨by decide, rfl, gw_215⟩ rfl (by decide) (by decide) ?_
    refine sx_nmQ eq7 ?_
    refine sx_iload_n dX6_chart_73 rfl rfl ?_
    obtain rfl := Option.some.inj h
    exact sx_iret dX6_chart_74 rfl hk9
  · replace h := sx_in h c9
    refine sx_bipush (v := (-10 : Int32)) dX6_chart_12 (by decide) ?_
    refine sx_aload_n dX6_chart_14 rfl rfl ?_
    refine sx_getR dX6_chart_15 (hs := shX_0) (k9 := 1) (hf := rfl) cb_X6 ⟨by decide, rfl, gw_293⟩ ?_
    obtain ⟨z8, hz8, h⟩ := sx_bd h
    refine sx_callV (o := 8) (As := []) (rest := [.int (-10 : Int32)]) KSX (F3_fault_ck l   z1.2 hz8) mi_X3_fault gw_475 rfl ⟨gw_476, gw_477⟩ shX_8 rfl rfl ⟨Nat.le_of_ble_eq_true rfl, Nat.le_of_ble_eq_true rfl⟩ (Nat.le_of_ble_eq_true rfl) dX6_chart_18 rfl ?_
    refine sx_isub dX6_chart_21 ?_
    obtain rfl := Option.some.inj h
    exact sx_iret dX6_chart_22 rfl hk9
theorem F6_chart_ck (l : Launch)   (q : SQ) {r : Int32 × SQ} (h : F6_chart   q = some r) : CK shX vwCl KX tfX l yX6_chart cX6_chart 2 ((some .int)) 8 175 [.ref 0] q (some (.int r.1)) r.2 :=
  CK.of mi_X6_chart (Nat.le_of_ble_eq_true rfl) (F6_chart_ok l   q h ⟨rfl, rfl⟩)
theorem mi_X6_isChild : sx_MI yX6_isChild cX6_isChild 2 ((some .boolean)) 1 := ⟨by decide, ⟨by decide, by decide, by decide +kernel⟩, gw_492, gw_60⟩
abbrev PF6_isChild (l : Launch) (Q : Option Value → SQ → Prop) : Nat → List (Nat × Value) → List Value → SQ → Prop := XX shX vwCl KX tfX l RX6 cX6_isChild 2 ((some .boolean)) { frames := 1, cells := 0, slots := 0, locals := 22 } Q
def F6_isChild  (v1 : Int32) (q : SQ) : Option (Int32 × SQ) :=
  (F6_within  v1 (0 : Int32) ((gI q 1 0) - (1 : Int32)) q).bind (fun z1 => (if sx_bt z1.1 = true then some (z1.1, z1.2) else none))
set_option maxHeartbeats 400000 in
theorem F6_isChild_ok (l : Launch)  {Q : Option Value → SQ → Prop} (v1 : Int32) (q : SQ) {res : Int32 × SQ} (h : F6_isChild  v1 q = some res) (hk9 : Q (some (.int res.1)) res.2) : PF6_isChild l Q 0 [(0, .ref 0), (1, .int v1)] [] q := by
  unfold F6_isChild at h
  refine sx_iload_n dX6_isChild_0 rfl rfl ?_
  refine sx_iconst (v := (0 : Int32)) dX6_isChild_1 (by decide) ?_
  refine sx_aload_n dX6_isChild_2 rfl rfl ?_
  refine sx_getR dX6_isChild_3 (hs := shX_0) (k9 := 0) (hf := rfl) cb_X6 ⟨by decide, rfl, gw_292⟩ ?_
  refine sx_getI dX6_isChild_6 (hs := shX_1) (k9 := 0) (hf := rfl) cb_X4 ⟨by decide, rfl, gw_90⟩ ?_
  refine sx_iconst (v := (1 : Int32)) dX6_isChild_9 (by decide) ?_
  refine sx_isub dX6_isChild_10 ?_
  obtain ⟨z1, hz1, h⟩ := sx_bd h
  refine sx_callS (As := [.int v1, .int (0 : Int32), .int ((gI q 1 0) - (1 : Int32))]) (rest := []) KSX (F6_within_ck l  v1 (0 : Int32) ((gI q 1 0) - (1 : Int32)) q hz1) mi_X6_within gw_333 rfl gw_334 ⟨Nat.le_of_ble_eq_true rfl, Nat.le_of_ble_eq_true rfl⟩ (Nat.le_of_ble_eq_true rfl) dX6_isChild_11 rfl ?_
  obtain ⟨g9, h⟩ := sx_gd h
  obtain rfl := Option.some.inj h
  exact sx_zret dX6_isChild_14 rfl (sx_bit g9) hk9
theorem F6_isChild_ck (l : Launch)  (v1 : Int32) (q : SQ) {r : Int32 × SQ} (h : F6_isChild  v1 q = some r) : CK shX vwCl KX tfX l yX6_isChild cX6_isChild 2 ((some .boolean)) 1 22 [.ref 0, .int v1] q (some (.int r.1)) r.2 :=
  CK.of mi_X6_isChild (Nat.le_of_ble_eq_true rfl) (F6_isChild_ok l  v1 q h ⟨rfl, rfl⟩)
theorem mi_X6_child : sx_MI yX6_child cX6_child 3 ((some .int)) 2 := ⟨by decide, ⟨by decide, by decide, by decide +kernel⟩, gw_488, gw_60⟩
abbrev PF6_child (l : Launch) (Q : Option Value → SQ → Prop) : Nat → List (Nat × Value) → List Value → SQ → Prop := XX shX vwCl KX tfX l RX6 cX6_child 3 ((some .int)) { frames := 2, cells := 0, slots := 0, locals := 43 } Q
def F6_child  (v1 : Int32) (v2 : Int32) (q : SQ) : Option (Int32 × SQ) :=
  (F6_isChild  v1 q).bind (fun z1 => (if z1.1 = 0 then some ((-1 : Int32), z1.2) else (if v2 = (0 : Int32) then (if sx_ix v1 8 = true then some (gI z1.2 2 v1.toNatClampNeg, z1.2) else none) else (if v2 = (1 : Int32) then (if sx_ix v1 8 = true then some (gI z1.2 3 v1.toNatClampNeg, z1.2) else none) else (if v2 = (2 : Int32) then (if sx_ix v1 8 = true then some (gI z1.2 4 v1.toNatClampNeg, z1.2) else none) else (if v2 = (3 : Int32) then (if sx_ix v1 8 = true then some (gI z1.2 20 v1.toNatClampNeg, z1.2) else none) else (if v2 = (4 : Int32) then (if sx_ix v1 8 = true then some (gI z1.2 21 v1.toNatClampNeg, z1.2) else none) else (if v2 = (5 : Int32) then (if sx_ix v1 8 = true then some (gI z1.2 22 v1.toNatClampNeg, z1.2) else none) else some ((-1 : Int32), z1.2)))))))))
set_option maxHeartbeats 400000 in
theorem F6_child_ok (l : Launch)  {Q : Option Value → SQ → Prop} (v1 : Int32) (v2 : Int32) (q : SQ) {res : Int32 × SQ} (h : F6_child  v1 v2 q = some res) (hk9 : Q (some (.int res.1)) res.2) : PF6_child l Q 0 [(0, .ref 0), (1, .int v1), (2, .int v2)] [] q := by
  unfold F6_child at h
  refine sx_aload_n dX6_child_0 rfl rfl ?_
  refine sx_iload_n dX6_child_1 rfl rfl ?_
  obtain ⟨z1, hz1, h⟩ := sx_bd h
  refine sx_callV (o := 0) (As := [.int v1]) (rest := []) KSX (F6_isChild_ck l  v1 q hz1) mi_X6_isChild gw_489 rfl ⟨gw_491, gw_13⟩ shX_0 rfl rfl ⟨Nat.le_of_ble_eq_true rfl, Nat.le_of_ble_eq_true rfl⟩ (Nat.le_of_ble_eq_true rfl) dX6_child_2 rfl ?_
  refine sx_if_ne (tgt := 10) dX6_child_5 (by decide) (fun c9 => ?_) (fun c9 => ?_)
  · replace h := sx_in h c9
    refine sx_iload_n dX6_child_10 rfl rfl ?_
    by_cases c9_0 : v2 = (0 : Int32)
    · replace h := sx_ip h c9_0
      refine sx_tblIn (tgt := 48) dX6_child_11 (by rw [c9_0]; decide) (by rw [c9_0]; decide) (by rw [c9_0]; rfl) (by decide) ?_
      refine sx_aload_n dX6_child_48 rfl rfl ?_
      refine sx_getR dX6_child_49 (hs := shX_0) (k9 := 0) (hf := rfl) cb_X6 ⟨by decide, rfl, gw_292⟩ ?_
      refine sx_getR dX6_child_52 (hs := shX_1) (k9 := 2) (hf := rfl) cb_X4 ⟨by decide, rfl, gw_98⟩ ?_
      refine sx_iload_n dX6_child_55 rfl rfl ?_
      obtain ⟨g9, h⟩ := sx_gd h
      refine sx_iald dX6_child_56 shX_2 (fun _ _ => rfl) (sx_ix_in g9) ?_
      obtain rfl := Option.some.inj h
      exact sx_iret dX6_child_57 rfl hk9
    · replace h := sx_in h c9_0
      by_cases c9_1 : v2 = (1 : Int32)
      · replace h := sx_ip h c9_1
        refine sx_tblIn (tgt := 58) dX6_child_11 (by rw [c9_1]; decide) (by rw [c9_1]; decide) (by rw [c9_1]; rfl) (by decide) ?_
        refine sx_aload_n dX6_child_58 rfl rfl ?_
        refine sx_getR dX6_child_59 (hs := shX_0) (k9 := 0) (hf := rfl) cb_X6 ⟨by decide, rfl, gw_292⟩ ?_
        refine sx_getR dX6_child_62 (hs := shX_1) (k9 := 3) (hf := rfl) cb_X4 ⟨by decide, rfl, gw_100⟩ ?_
        refine sx_iload_n dX6_child_65 rfl rfl ?_
        obtain ⟨g9, h⟩ := sx_gd h
        refine sx_iald dX6_child_66 shX_3 (fun _ _ => rfl) (sx_ix_in g9) ?_
        obtain rfl := Option.some.inj h
        exact sx_iret dX6_child_67 rfl hk9
      · replace h := sx_in h c9_1
        by_cases c9_2 : v2 = (2 : Int32)
        · replace h := sx_ip h c9_2
          refine sx_tblIn (tgt := 68) dX6_child_11 (by rw [c9_2]; decide) (by rw [c9_2]; decide) (by rw [c9_2]; rfl) (by decide) ?_
          refine sx_aload_n dX6_child_68 rfl rfl ?_
          refine sx_getR dX6_child_69 (hs := shX_0) (k9 := 0) (hf := rfl) cb_X6 ⟨by decide, rfl, gw_292⟩ ?_
          refine sx_getR dX6_child_72 (hs := shX_1) (k9 := 4) (hf := rfl) cb_X4 ⟨by decide, rfl, gw_102⟩ ?_
          refine sx_iload_n dX6_child_75 rfl rfl ?_
          obtain ⟨g9, h⟩ := sx_gd h
          refine sx_iald dX6_child_76 shX_4 (fun _ _ => rfl) (sx_ix_in g9) ?_
          obtain rfl := Option.some.inj h
          exact sx_iret dX6_child_77 rfl hk9
        · replace h := sx_in h c9_2
          by_cases c9_3 : v2 = (3 : Int32)
          · replace h := sx_ip h c9_3
            refine sx_tblIn (tgt := 78) dX6_child_11 (by rw [c9_3]; decide) (by rw [c9_3]; decide) (by rw [c9_3]; rfl) (by decide) ?_
            refine sx_aload_n dX6_child_78 rfl rfl ?_
            refine sx_getR dX6_child_79 (hs := shX_0) (k9 := 2) (hf := rfl) cb_X6 ⟨by decide, rfl, gw_294⟩ ?_
            refine sx_getR dX6_child_82 (hs := shX_19) (k9 := 2) (hf := rfl) cb_X0 ⟨by decide, rfl, gw_190⟩ ?_
            refine sx_iload_n dX6_child_85 rfl rfl ?_
            obtain ⟨g9, h⟩ := sx_gd h
            refine sx_iald dX6_child_86 shX_20 (fun _ _ => rfl) (sx_ix_in g9) ?_
            obtain rfl := Option.some.inj h
            exact sx_iret dX6_child_87 rfl hk9
          · replace h := sx_in h c9_3
            by_cases c9_4 : v2 = (4 : Int32)
            · replace h := sx_ip h c9_4
              refine sx_tblIn (tgt := 88) dX6_child_11 (by rw [c9_4]; decide) (by rw [c9_4]; decide) (by rw [c9_4]; rfl) (by decide) ?_
              refine sx_aload_n dX6_child_88 rfl rfl ?_
              refine sx_getR dX6_child_89 (hs := shX_0) (k9 := 2) (hf := rfl) cb_X6 ⟨by decide, rfl, gw_294⟩ ?_
              refine sx_getR dX6_child_92 (hs := shX_19) (k9 := 3) (hf := rfl) cb_X0 ⟨by decide, rfl, gw_192⟩ ?_
              refine sx_iload_n dX6_child_95 rfl rfl ?_
              obtain ⟨g9, h⟩ := sx_gd h
              refine sx_iald dX6_child_96 shX_21 (fun _ _ => rfl) (sx_ix_in g9) ?_
              obtain rfl := Option.some.inj h
              exact sx_iret dX6_child_97 rfl hk9
            · replace h := sx_in h c9_4
              by_cases c9_5 : v2 = (5 : Int32)
              · replace h := sx_ip h c9_5
                refine sx_tblIn (tgt := 98) dX6_child_11 (by rw [c9_5]; decide) (by rw [c9_5]; decide) (by rw [c9_5]; rfl) (by decide) ?_
                refine sx_aload_n dX6_child_98 rfl rfl ?_
                refine sx_getR dX6_child_99 (hs := shX_0) (k9 := 2) (hf := rfl) cb_X6 ⟨by decide, rfl, gw_294⟩ ?_
                refine sx_getR dX6_child_102 (hs := shX_19) (k9 := 4) (hf := rfl) cb_X0 ⟨by decide, rfl, gw_194⟩ ?_
                refine sx_iload_n dX6_child_105 rfl rfl ?_
                obtain ⟨g9, h⟩ := sx_gd h
                refine sx_iald dX6_child_106 shX_22 (fun _ _ => rfl) (sx_ix_in g9) ?_
                obtain rfl := Option.some.inj h
                exact sx_iret dX6_child_107 rfl hk9
              · replace h := sx_in h c9_5
                have n0 := lv_neT c9_0 (a := 0) (by decide)
                have n1 := lv_neT c9_1 (a := 1) (by decide)
                have n2 := lv_neT c9_2 (a := 2) (by decide)
                have n3 := lv_neT c9_3 (a := 3) (by decide)
                have n4 := lv_neT c9_4 (a := 4) (by decide)
                have n5 := lv_neT c9_5 (a := 5) (by decide)
                refine sx_tblOut (tgt := 108) dX6_child_11 (by omega) (by decide) ?_
                refine sx_iconst (v := (-1 : Int32)) dX6_child_108 (by decide) ?_
                obtain rfl := Option.some.inj h
                exact sx_iret dX6_child_109 rfl hk9
  · replace h := sx_ip h c9
    refine sx_iconst (v := (-1 : Int32)) dX6_child_8 (by decide) ?_
    obtain rfl := Option.some.inj h
    exact sx_iret dX6_child_9 rfl hk9
theorem F6_child_ck (l : Launch)  (v1 : Int32) (v2 : Int32) (q : SQ) {r : Int32 × SQ} (h : F6_child  v1 v2 q = some r) : CK shX vwCl KX tfX l yX6_child cX6_child 3 ((some .int)) 2 43 [.ref 0, .int v1, .int v2] q (some (.int r.1)) r.2 :=
  CK.of mi_X6_child (Nat.le_of_ble_eq_true rfl) (F6_child_ok l  v1 v2 q h ⟨rfl, rfl⟩)
theorem mi_X6_isSort : sx_MI yX6_isSort cX6_isSort 2 ((some .boolean)) 1 := ⟨by decide, ⟨by decide, by decide, by decide +kernel⟩, gw_500, gw_60⟩
abbrev PF6_isSort (l : Launch) (Q : Option Value → SQ → Prop) : Nat → List (Nat × Value) → List Value → SQ → Prop := XX shX vwCl KX tfX l RX6 cX6_isSort 2 ((some .boolean)) { frames := 1, cells := 0, slots := 0, locals := 22 } Q
def F6_isSort  (v1 : Int32) (q : SQ) : Option (Int32 × SQ) :=
  (F6_within  v1 (0 : Int32) ((gI q 1 1) - (1 : Int32)) q).bind (fun z1 => (if sx_bt z1.1 = true then some (z1.1, z1.2) else none))
set_option maxHeartbeats 400000 in
theorem F6_isSort_ok (l : Launch)  {Q : Option Value → SQ → Prop} (v1 : Int32) (q : SQ) {res : Int32 × SQ} (h : F6_isSort  v1 q = some res) (hk9 : Q (some (.int res.1)) res.2) : PF6_isSort l Q 0 [(0, .ref 0), (1, .int v1)] [] q := by
  unfold F6_isSort at h
  refine sx_iload_n dX6_isSort_0 rfl rfl ?_
  refine sx_iconst (v := (0 : Int32)) dX6_isSort_1 (by decide) ?_
  refine sx_aload_n dX6_isSort_2 rfl rfl ?_
  refine sx_getR dX6_isSort_3 (hs := shX_0) (k9 := 0) (hf := rfl) cb_X6 ⟨by decide, rfl, gw_292⟩ ?_
  refine sx_getI dX6_isSort_6 (hs := shX_1) (k9 := 1) (hf := rfl) cb_X4 ⟨by decide, rfl, gw_95⟩ ?_
  refine sx_iconst (v := (1 : Int32)) dX6_isSort_9 (by decide) ?_
  refine sx_isub dX6_isSort_10 ?_
  obtain ⟨z1, hz1, h⟩ := sx_bd h
  refine sx_callS (As := [.int v1, .int (0 : Int32), .int ((gI q 1 1) - (1 : Int32))]) (rest := []) KSX (F6_within_ck l  v1 (0 : Int32) ((gI q 1 1) - (1 : Int32)) q hz1) mi_X6_within gw_333 rfl gw_334 ⟨Nat.le_of_ble_eq_true rfl, Nat.le_of_ble_eq_true rfl⟩ (Nat.le_of_ble_eq_true rfl) dX6_isSort_11 rfl ?_
  obtain ⟨g9, h⟩ := sx_gd h
  obtain rfl := Option.some.inj h
  exact sx_zret dX6_isSort_14 rfl (sx_bit g9) hk9
theorem F6_isSort_ck (l : Launch)  (v1 : Int32) (q : SQ) {r : Int32 × SQ} (h : F6_isSort  v1 q = some r) : CK shX vwCl KX tfX l yX6_isSort cX6_isSort 2 ((some .boolean)) 1 22 [.ref 0, .int v1] q (some (.int r.1)) r.2 :=
  CK.of mi_X6_isSort (Nat.le_of_ble_eq_true rfl) (F6_isSort_ok l  v1 q h ⟨rfl, rfl⟩)
theorem mi_X6_book : sx_MI yX6_book cX6_book 3 ((some .int)) 2 := ⟨by decide, ⟨by decide, by decide, by decide +kernel⟩, gw_496, gw_60⟩
abbrev PF6_book (l : Launch) (Q : Option Value → SQ → Prop) : Nat → List (Nat × Value) → List Value → SQ → Prop := XX shX vwCl KX tfX l RX6 cX6_book 3 ((some .int)) { frames := 2, cells := 0, slots := 0, locals := 43 } Q
def F6_book  (v1 : Int32) (v2 : Int32) (q : SQ) : Option (Int32 × SQ) :=
  (F6_isSort  v1 q).bind (fun z1 => (if z1.1 = 0 then some ((-1 : Int32), z1.2) else (if v2 = (0 : Int32) then (if sx_ix v1 4 = true then some (gI z1.2 5 v1.toNatClampNeg, z1.2) else none) else (if v2 = (1 : Int32) then (if sx_ix v1 4 = true then some (gI z1.2 6 v1.toNatClampNeg, z1.2) else none) else (if v2 = (2 : Int32) then (if sx_ix v1 4 = true then some (gI z1.2 7 v1.toNatClampNeg, z1.2) else none) else some ((-1 : Int32), z1.2))))))
set_option maxHeartbeats 400000 in
theorem F6_book_ok (l : Launch)  {Q : Option Value → SQ → Prop} (v1 : Int32) (v2 : Int32) (q : SQ) {res : Int32 × SQ} (h : F6_book  v1 v2 q = some res) (hk9 : Q (some (.int res.1)) res.2) : PF6_book l Q 0 [(0, .ref 0), (1, .int v1), (2, .int v2)] [] q := by
  unfold F6_book at h
  refine sx_aload_n dX6_book_0 rfl rfl ?_
  refine sx_iload_n dX6_book_1 rfl rfl ?_
  obtain ⟨z1, hz1, h⟩ := sx_bd h
  refine sx_callV (o := 0) (As := [.int v1]) (rest := []) KSX (F6_isSort_ck l  v1 q hz1) mi_X6_isSort gw_497 rfl ⟨gw_499, gw_14⟩ shX_0 rfl rfl ⟨Nat.le_of_ble_eq_true rfl, Nat.le_of_ble_eq_true rfl⟩ (Nat.le_of_ble_eq_true rfl) dX6_book_2 rfl ?_
  refine sx_if_ne (tgt := 10) dX6_book_5 (by decide) (fun c9 => ?_) (fun c9 => ?_)
  · replace h := sx_in h c9
    refine sx_iload_n dX6_book_10 rfl rfl ?_
    by_cases c9_0 : v2 = (0 : Int32)
    · replace h := sx_ip h c9_0
      refine sx_tblIn (tgt := 36) dX6_book_11 (by rw [c9_0]; decide) (by rw [c9_0]; decide) (by rw [c9_0]; rfl) (by decide) ?_
      refine sx_aload_n dX6_book_36 rfl rfl ?_
      refine sx_getR dX6_book_37 (hs := shX_0) (k9 := 0) (hf := rfl) cb_X6 ⟨by decide, rfl, gw_292⟩ ?_
      refine sx_getR dX6_book_40 (hs := shX_1) (k9 := 5) (hf := rfl) cb_X4 ⟨by decide, rfl, gw_105⟩ ?_
      refine sx_iload_n dX6_book_43 rfl rfl ?_
      obtain ⟨g9, h⟩ := sx_gd h
      refine sx_iald dX6_book_44 shX_5 (fun _ _ => rfl) (sx_ix_in g9) ?_
      obtain rfl := Option.some.inj h
      exact sx_iret dX6_book_45 rfl hk9
    · replace h := sx_in h c9_0
      by_cases c9_1 : v2 = (1 : Int32)
      · replace h := sx_ip h c9_1
        refine sx_tblIn (tgt := 46) dX6_book_11 (by rw [c9_1]; decide) (by rw [c9_1]; decide) (by rw [c9_1]; rfl) (by decide) ?_
        refine sx_aload_n dX6_book_46 rfl rfl ?_
        refine sx_getR dX6_book_47 (hs := shX_0) (k9 := 0) (hf := rfl) cb_X6 ⟨by decide, rfl, gw_292⟩ ?_
        refine sx_getR dX6_book_50 (hs := shX_1) (k9 := 6) (hf := rfl) cb_X4 ⟨by decide, rfl, gw_108⟩ ?_
        refine sx_iload_n dX6_book_53 rfl rfl ?_
        obtain ⟨g9, h⟩ := sx_gd h
        refine sx_iald dX6_book_54 shX_6 (fun _ _ => rfl) (sx_ix_in g9) ?_
        obtain rfl := Option.some.inj h
        exact sx_iret dX6_book_55 rfl hk9
      · replace h := sx_in h c9_1
        by_cases c9_2 : v2 = (2 : Int32)
        · replace h := sx_ip h c9_2
          refine sx_tblIn (tgt := 56) dX6_book_11 (by rw [c9_2]; decide) (by rw [c9_2]; decide) (by rw [c9_2]; rfl) (by decide) ?_
          refine sx_aload_n dX6_book_56 rfl rfl ?_
          refine sx_getR dX6_book_57 (hs := shX_0) (k9 := 0) (hf := rfl) cb_X6 ⟨by decide, rfl, gw_292⟩ ?_
          refine sx_getR dX6_book_60 (hs := shX_1) (k9 := 7) (hf := rfl) cb_X4 ⟨by decide, rfl, gw_110⟩ ?_
          refine sx_iload_n dX6_book_63 rfl rfl ?_
          obtain ⟨g9, h⟩ := sx_gd h
          refine sx_iald dX6_book_64 shX_7 (fun _ _ => rfl) (sx_ix_in g9) ?_
          obtain rfl := Option.some.inj h
          exact sx_iret dX6_book_65 rfl hk9
        · replace h := sx_in h c9_2
          have n0 := lv_neT c9_0 (a := 0) (by decide)
          have n1 := lv_neT c9_1 (a := 1) (by decide)
          have n2 := lv_neT c9_2 (a := 2) (by decide)
          refine sx_tblOut (tgt := 66) dX6_book_11 (by omega) (by decide) ?_
          refine sx_iconst (v := (-1 : Int32)) dX6_book_66 (by decide) ?_
          obtain rfl := Option.some.inj h
          exact sx_iret dX6_book_67 rfl hk9
  · replace h := sx_ip h c9
    refine sx_iconst (v := (-1 : Int32)) dX6_book_8 (by decide) ?_
    obtain rfl := Option.some.inj h
    exact sx_iret dX6_book_9 rfl hk9
theorem F6_book_ck (l : Launch)  (v1 : Int32) (v2 : Int32) (q : SQ) {r : Int32 × SQ} (h : F6_book  v1 v2 q = some r) : CK shX vwCl KX tfX l yX6_book cX6_book 3 ((some .int)) 2 43 [.ref 0, .int v1, .int v2] q (some (.int r.1)) r.2 :=
  CK.of mi_X6_book (Nat.le_of_ble_eq_true rfl) (F6_book_ok l  v1 v2 q h ⟨rfl, rfl⟩)
theorem mi_X6_plan : sx_MI yX6_plan cX6_plan 2 ((some .int)) 1 := ⟨by decide, ⟨by decide, by decide, by decide +kernel⟩, gw_504, gw_60⟩
abbrev PF6_plan (l : Launch) (Q : Option Value → SQ → Prop) : Nat → List (Nat × Value) → List Value → SQ → Prop := XX shX vwCl KX tfX l RX6 cX6_plan 2 ((some .int)) { frames := 0, cells := 0, slots := 0, locals := 0 } Q
def F6_plan  (v1 : Int32) (q : SQ) : Option (Int32 × SQ) :=
  (if v1 = (0 : Int32) then some (gI q 1 8, q) else (if v1 = (1 : Int32) then some (gI q 1 9, q) else (if v1 = (2 : Int32) then (if gI q 1 11 = 0 then some ((0 : Int32), q) else some ((1 : Int32), q)) else (if v1 = (3 : Int32) then some (gI q 1 10, q) else some ((-1 : Int32), q)))))
set_option maxHeartbeats 400000 in
theorem F6_plan_ok (l : Launch)  {Q : Option Value → SQ → Prop} (v1 : Int32) (q : SQ) {res : Int32 × SQ} (h : F6_plan  v1 q = some res) (hk9 : Q (some (.int res.1)) res.2) : PF6_plan l Q 0 [(0, .ref 0), (1, .int v1)] [] q := by
  unfold F6_plan at h
  refine sx_iload_n dX6_plan_0 rfl rfl ?_
  by_cases c9_0 : v1 = (0 : Int32)
  · replace h := sx_ip h c9_0
    refine sx_tblIn (tgt := 32) dX6_plan_1 (by rw [c9_0]; decide) (by rw [c9_0]; decide) (by rw [c9_0]; rfl) (by decide) ?_
    refine sx_aload_n dX6_plan_32 rfl rfl ?_
    refine sx_getR dX6_plan_33 (hs := shX_0) (k9 := 0) (hf := rfl) cb_X6 ⟨by decide, rfl, gw_292⟩ ?_
    refine sx_getI dX6_plan_36 (hs := shX_1) (k9 := 8) (hf := rfl) cb_X4 ⟨by decide, rfl, gw_113⟩ ?_
    obtain rfl := Option.some.inj h
    exact sx_iret dX6_plan_39 rfl hk9
  · replace h := sx_in h c9_0
    by_cases c9_1 : v1 = (1 : Int32)
    · replace h := sx_ip h c9_1
      refine sx_tblIn (tgt := 40) dX6_plan_1 (by rw [c9_1]; decide) (by rw [c9_1]; decide) (by rw [c9_1]; rfl) (by decide) ?_
      refine sx_aload_n dX6_plan_40 rfl rfl ?_
      refine sx_getR dX6_plan_41 (hs := shX_0) (k9 := 0) (hf := rfl) cb_X6 ⟨by decide, rfl, gw_292⟩ ?_
      refine sx_getI dX6_plan_44 (hs := shX_1) (k9 := 9) (hf := rfl) cb_X4 ⟨by decide, rfl, gw_115⟩ ?_
      obtain rfl := Option.some.inj h
      exact sx_iret dX6_plan_47 rfl hk9
    · replace h := sx_in h c9_1
      by_cases c9_2 : v1 = (2 : Int32)
      · replace h := sx_ip h c9_2
        refine sx_tblIn (tgt := 48) dX6_plan_1 (by rw [c9_2]; decide) (by rw [c9_2]; decide) (by rw [c9_2]; rfl) (by decide) ?_
        refine sx_aload_n dX6_plan_48 rfl rfl ?_
        refine sx_getR dX6_plan_49 (hs := shX_0) (k9 := 0) (hf := rfl) cb_X6 ⟨by decide, rfl, gw_292⟩ ?_
        refine sx_getI dX6_plan_52 (hs := shX_1) (k9 := 11) (hf := rfl) cb_X4 ⟨by decide, rfl, gw_120⟩ ?_
        refine sx_if_eq (tgt := 62) dX6_plan_55 (by decide) (fun c9 => ?_) (fun c9 => ?_)
        · replace h := sx_ip h c9
          refine sx_iconst (v := (0 : Int32)) dX6_plan_62 (by decide) ?_
          obtain rfl := Option.some.inj h
          exact sx_iret dX6_plan_63 rfl hk9
        · replace h := sx_in h c9
          refine sx_iconst (v := (1 : Int32)) dX6_plan_58 (by decide) ?_
          refine sx_goto (tgt := 63) dX6_plan_59 (by decide) ?_
          obtain rfl := Option.some.inj h
          exact sx_iret dX6_plan_63 rfl hk9
      · replace h := sx_in h c9_2
        by_cases c9_3 : v1 = (3 : Int32)
        · replace h := sx_ip h c9_3
          refine sx_tblIn (tgt := 64) dX6_plan_1 (by rw [c9_3]; decide) (by rw [c9_3]; decide) (by rw [c9_3]; rfl) (by decide) ?_
          refine sx_aload_n dX6_plan_64 rfl rfl ?_
          refine sx_getR dX6_plan_65 (hs := shX_0) (k9 := 0) (hf := rfl) cb_X6 ⟨by decide, rfl, gw_292⟩ ?_
          refine sx_getI dX6_plan_68 (hs := shX_1) (k9 := 10) (hf := rfl) cb_X4 ⟨by decide, rfl, gw_117⟩ ?_
          obtain rfl := Option.some.inj h
          exact sx_iret dX6_plan_71 rfl hk9
        · replace h := sx_in h c9_3
          have n0 := lv_neT c9_0 (a := 0) (by decide)
          have n1 := lv_neT c9_1 (a := 1) (by decide)
          have n2 := lv_neT c9_2 (a := 2) (by decide)
          have n3 := lv_neT c9_3 (a := 3) (by decide)
          refine sx_tblOut (tgt := 72) dX6_plan_1 (by omega) (by decide) ?_
          refine sx_iconst (v := (-1 : Int32)) dX6_plan_72 (by decide) ?_
          obtain rfl := Option.some.inj h
          exact sx_iret dX6_plan_73 rfl hk9
theorem F6_plan_ck (l : Launch)  (v1 : Int32) (q : SQ) {r : Int32 × SQ} (h : F6_plan  v1 q = some r) : CK shX vwCl KX tfX l yX6_plan cX6_plan 2 ((some .int)) 0 0 [.ref 0, .int v1] q (some (.int r.1)) r.2 :=
  CK.of mi_X6_plan (Nat.le_of_ble_eq_true rfl) (F6_plan_ok l  v1 q h ⟨rfl, rfl⟩)
