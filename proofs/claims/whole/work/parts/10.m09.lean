theorem mi_X7_want : sx_MI yX7_want cX7_want 4 ((some .int)) 3 := ⟨by decide, ⟨by decide, by decide, by decide +kernel⟩, gw_953, gw_68⟩
abbrev PF7_want (l : Launch) (Q : Option Value → SQ → Prop) : Nat → List (Nat × Value) → List Value → SQ → Prop := XX shM vwCl KM tfM l RX7 cX7_want 4 ((some .int)) { frames := 3, cells := 0, slots := 0, locals := 72 } Q
def F7_want_30   (q : SQ) : Option (Int32 × SQ) :=
  some ((-1 : Int32), q)
set_option maxHeartbeats 400000 in
theorem F7_want_30_ok (l : Launch)  {Q : Option Value → SQ → Prop}  (q : SQ) {res : Int32 × SQ} (h : F7_want_30   q = some res) (hk9 : Q (some (.int res.1)) res.2) : PF7_want l Q 30 [] [] q := by
  unfold F7_want_30 at h
  refine sx_iconst (v := (-1 : Int32)) dX7_want_30 (by decide) ?_
  obtain rfl := Option.some.inj h
  exact sx_iret dX7_want_31 rfl hk9
def F7_want  (v1 : Int32) (v2 : Int32) (v3 : Int32) (q : SQ) : Option (Int32 × SQ) :=
  sx_let (sI q 0 0 (0 : Int32)) (fun q1 => (F7_isChild  v1 q1).bind (fun z2 => (if z2.1 = 0 then F7_want_30   z2.2 else (F7_isSort  v2 z2.2).bind (fun z3 => (if z3.1 = 0 then F7_want_30   z3.2 else (F7_in  v3 (0 : Int32) (3 : Int32) z3.2).bind (fun z4 => (if z4.1 = 0 then F7_want_30   z4.2 else (if v3 = 0 then (F7_pagesOf  v1 v2 z4.2).bind (fun z8 => some (z8.1, z8.2)) else (if v3 = (1 : Int32) then (F7_joysOf 4 v1 v2 z4.2).bind (fun z7 => some (z7.1, z7.2)) else (if v3 = (2 : Int32) then (F7_starsOf 4 v1 v2 (gI z4.2 4 0) z4.2).bind (fun z6 => some (z6.1, z6.2)) else (F7_wantOf 4 v1 v2 (gI z4.2 4 0) z4.2).bind (fun z5 => some (z5.1, z5.2))))))))))))
set_option maxHeartbeats 400000 in
theorem F7_want_ok (l : Launch)  {Q : Option Value → SQ → Prop} (v1 : Int32) (v2 : Int32) (v3 : Int32) (q : SQ) {res : Int32 × SQ} (h : F7_want  v1 v2 v3 q = some res) (hk9 : Q (some (.int res.1)) res.2) : PF7_want l Q 0 [(0, .ref 0), (1, .int v1), (2, .int v2), (3, .int v3)] [] q := by
  unfold F7_want at h
  refine sx_aload_n dX7_want_0 rfl rfl ?_
  refine sx_iconst (v := (0 : Int32)) dX7_want_1 (by decide) ?_
  obtain ⟨q1, eq1, h⟩ := sx_lt h
  refine sx_putI dX7_want_2 (hs := shM_0) (k9 := 0) (hf := rfl) cb_X7 ⟨by decide, rfl, gw_799⟩ rfl (by decide) ?_
  refine sx_nmQ eq1 ?_
  refine sx_aload_n dX7_want_5 rfl rfl ?_
  refine sx_iload_n dX7_want_6 rfl rfl ?_
  obtain ⟨z2, hz2, h⟩ := sx_bd h
  refine sx_callV (o := 0) (As := [.int v1]) (rest := []) KSM (F7_isChild_ck l  v1 q1 hz2) mi_X7_isChild gw_919 rfl ⟨gw_921, gw_40⟩ shM_0 rfl rfl ⟨Nat.le_of_ble_eq_true rfl, Nat.le_of_ble_eq_true rfl⟩ (Nat.le_of_ble_eq_true rfl) dX7_want_7 rfl ?_
  refine sx_if_eq (tgt := 30) dX7_want_10 (by decide) (fun c9 => ?_) (fun c9 => ?_)
  · replace h := sx_ip h c9
    refine sx_locs [] rfl ?_
    exact F7_want_30_ok l   z2.2 h hk9
  · replace h := sx_in h c9
    refine sx_aload_n dX7_want_13 rfl rfl ?_
    refine sx_iload_n dX7_want_14 rfl rfl ?_
    obtain ⟨z3, hz3, h⟩ := sx_bd h
    refine sx_callV (o := 0) (As := [.int v2]) (rest := []) KSM (F7_isSort_ck l  v2 z2.2 hz3) mi_X7_isSort gw_927 rfl ⟨gw_929, gw_41⟩ shM_0 rfl rfl ⟨Nat.le_of_ble_eq_true rfl, Nat.le_of_ble_eq_true rfl⟩ (Nat.le_of_ble_eq_true rfl) dX7_want_15 rfl ?_
    refine sx_if_eq (tgt := 30) dX7_want_18 (by decide) (fun c9 => ?_) (fun c9 => ?_)
    · replace h := sx_ip h c9
      refine sx_locs [] rfl ?_
      exact F7_want_30_ok l   z3.2 h hk9
    · replace h := sx_in h c9
      refine sx_iload_n dX7_want_21 rfl rfl ?_
      refine sx_iconst (v := (0 : Int32)) dX7_want_22 (by decide) ?_
      refine sx_iconst (v := (3 : Int32)) dX7_want_23 (by decide) ?_
      obtain ⟨z4, hz4, h⟩ := sx_bd h
      refine sx_callS (As := [.int v3, .int (0 : Int32), .int (3 : Int32)]) (rest := []) KSM (F7_in_ck l  v3 (0 : Int32) (3 : Int32) z3.2 hz4) mi_X7_in gw_865 rfl gw_866 ⟨Nat.le_of_ble_eq_true rfl, Nat.le_of_ble_eq_true rfl⟩ (Nat.le_of_ble_eq_true rfl) dX7_want_24 rfl ?_
      refine sx_if_ne (tgt := 32) dX7_want_27 (by decide) (fun c9 => ?_) (fun c9 => ?_)
      · replace h := sx_in h c9
        refine sx_iload_n dX7_want_32 rfl rfl ?_
        refine sx_if_ne (tgt := 45) dX7_want_33 (by decide) (fun c9 => ?_) (fun c9 => ?_)
        · replace h := sx_in h c9
          refine sx_iload_n dX7_want_45 rfl rfl ?_
          refine sx_iconst (v := (1 : Int32)) dX7_want_46 (by decide) ?_
          refine sx_icmp_ne (tgt := 63) dX7_want_47 (by decide) (fun c9 => ?_) (fun c9 => ?_)
          · replace h := sx_in h c9
            refine sx_iload_n dX7_want_63 rfl rfl ?_
            refine sx_iconst (v := (2 : Int32)) dX7_want_64 (by decide) ?_
            refine sx_icmp_ne (tgt := 87) dX7_want_65 (by decide) (fun c9 => ?_) (fun c9 => ?_)
            · replace h := sx_in h c9
              refine sx_aload_n dX7_want_87 rfl rfl ?_
              refine sx_aload_n dX7_want_88 rfl rfl ?_
              refine sx_getR dX7_want_89 (hs := shM_0) (k9 := 11) (hf := rfl) cb_X7 ⟨by decide, rfl, gw_810⟩ ?_
              refine sx_iload_n dX7_want_92 rfl rfl ?_
              refine sx_iload_n dX7_want_93 rfl rfl ?_
              refine sx_aload_n dX7_want_94 rfl rfl ?_
              refine sx_getR dX7_want_95 (hs := shM_0) (k9 := 11) (hf := rfl) cb_X7 ⟨by decide, rfl, gw_810⟩ ?_
              refine sx_iconst (v := (0 : Int32)) dX7_want_98 (by decide) ?_
              refine sx_ialdC (j9 := 0) dX7_want_99 shM_4 (fun _ _ => rfl) (by decide) (by decide) ?_
              obtain ⟨z5, hz5, h⟩ := sx_bd h
              refine sx_callV (o := 0) (As := [.ref 4, .int v1, .int v2, .int (gI z4.2 4 0)]) (rest := []) KSM (F7_wantOf_ck l 4 shM_4 v1 v2 (gI z4.2 4 0) z4.2 hz5) mi_X7_wantOf gw_966 rfl ⟨gw_968, gw_46⟩ shM_0 rfl rfl ⟨Nat.le_of_ble_eq_true rfl, Nat.le_of_ble_eq_true rfl⟩ (Nat.le_of_ble_eq_true rfl) dX7_want_100 rfl ?_
              obtain rfl := Option.some.inj h
              exact sx_iret dX7_want_103 rfl hk9
            · replace h := sx_ip h c9
              refine sx_aload_n dX7_want_68 rfl rfl ?_
              refine sx_aload_n dX7_want_69 rfl rfl ?_
              refine sx_getR dX7_want_70 (hs := shM_0) (k9 := 11) (hf := rfl) cb_X7 ⟨by decide, rfl, gw_810⟩ ?_
              refine sx_iload_n dX7_want_73 rfl rfl ?_
              refine sx_iload_n dX7_want_74 rfl rfl ?_
              refine sx_aload_n dX7_want_75 rfl rfl ?_
              refine sx_getR dX7_want_76 (hs := shM_0) (k9 := 11) (hf := rfl) cb_X7 ⟨by decide, rfl, gw_810⟩ ?_
              refine sx_iconst (v := (0 : Int32)) dX7_want_79 (by decide) ?_
              refine sx_ialdC (j9 := 0) dX7_want_80 shM_4 (fun _ _ => rfl) (by decide) (by decide) ?_
              obtain ⟨z6, hz6, h⟩ := sx_bd h
              refine sx_callV (o := 0) (As := [.ref 4, .int v1, .int v2, .int (gI z4.2 4 0)]) (rest := []) KSM (F7_starsOf_ck l 4 shM_4 v1 v2 (gI z4.2 4 0) z4.2 hz6) mi_X7_starsOf gw_962 rfl ⟨gw_964, gw_45⟩ shM_0 rfl rfl ⟨Nat.le_of_ble_eq_true rfl, Nat.le_of_ble_eq_true rfl⟩ (Nat.le_of_ble_eq_true rfl) dX7_want_81 rfl ?_
              refine sx_goto (tgt := 103) dX7_want_84 (by decide) ?_
              obtain rfl := Option.some.inj h
              exact sx_iret dX7_want_103 rfl hk9
          · replace h := sx_ip h c9
            refine sx_aload_n dX7_want_50 rfl rfl ?_
            refine sx_aload_n dX7_want_51 rfl rfl ?_
            refine sx_getR dX7_want_52 (hs := shM_0) (k9 := 11) (hf := rfl) cb_X7 ⟨by decide, rfl, gw_810⟩ ?_
            refine sx_iload_n dX7_want_55 rfl rfl ?_
            refine sx_iload_n dX7_want_56 rfl rfl ?_
            obtain ⟨z7, hz7, h⟩ := sx_bd h
            refine sx_callV (o := 0) (As := [.ref 4, .int v1, .int v2]) (rest := []) KSM (F7_joysOf_ck l 4 shM_4 v1 v2 z4.2 hz7) mi_X7_joysOf gw_958 rfl ⟨gw_960, gw_44⟩ shM_0 rfl rfl ⟨Nat.le_of_ble_eq_true rfl, Nat.le_of_ble_eq_true rfl⟩ (Nat.le_of_ble_eq_true rfl) dX7_want_57 rfl ?_
            refine sx_goto (tgt := 103) dX7_want_60 (by decide) ?_
            obtain rfl := Option.some.inj h
            exact sx_iret dX7_want_103 rfl hk9
        · replace h := sx_ip h c9
          refine sx_aload_n dX7_want_36 rfl rfl ?_
          refine sx_iload_n dX7_want_37 rfl rfl ?_
          refine sx_iload_n dX7_want_38 rfl rfl ?_
          obtain ⟨z8, hz8, h⟩ := sx_bd h
          refine sx_callV (o := 0) (As := [.int v1, .int v2]) (rest := []) KSM (F7_pagesOf_ck l  v1 v2 z4.2 hz8) mi_X7_pagesOf gw_954 rfl ⟨gw_956, gw_43⟩ shM_0 rfl rfl ⟨Nat.le_of_ble_eq_true rfl, Nat.le_of_ble_eq_true rfl⟩ (Nat.le_of_ble_eq_true rfl) dX7_want_39 rfl ?_
          refine sx_goto (tgt := 103) dX7_want_42 (by decide) ?_
          obtain rfl := Option.some.inj h
          exact sx_iret dX7_want_103 rfl hk9
      · replace h := sx_ip h c9
        refine sx_locs [] rfl ?_
        exact F7_want_30_ok l   z4.2 h hk9
theorem F7_want_ck (l : Launch)  (v1 : Int32) (v2 : Int32) (v3 : Int32) (q : SQ) {r : Int32 × SQ} (h : F7_want  v1 v2 v3 q = some r) : CK shM vwCl KM tfM l yX7_want cX7_want 4 ((some .int)) 3 72 [.ref 0, .int v1, .int v2, .int v3] q (some (.int r.1)) r.2 :=
  CK.of mi_X7_want (Nat.le_of_ble_eq_true rfl) (F7_want_ok l  v1 v2 v3 q h ⟨rfl, rfl⟩)
theorem mi_X7_choice : sx_MI yX7_choice cX7_choice 2 ((some .int)) 1 := ⟨by decide, ⟨by decide, by decide, by decide +kernel⟩, gw_973, gw_68⟩
abbrev PF7_choice (l : Launch) (Q : Option Value → SQ → Prop) : Nat → List (Nat × Value) → List Value → SQ → Prop := XX shM vwCl KM tfM l RX7 cX7_choice 2 ((some .int)) { frames := 4, cells := 0, slots := 0, locals := 99 } Q
def F7_choice  (v1 : Int32) (q : SQ) : Option (Int32 × SQ) :=
  sx_let (sI q 0 0 (0 : Int32)) (fun q1 => (F7_isChild  v1 q1).bind (fun z2 => (if z2.1 = 0 then some ((-1 : Int32), z2.2) else (F7_choiceOf 4 v1 (gI z2.2 4 0) z2.2).bind (fun z3 => some (z3.1, z3.2)))))
set_option maxHeartbeats 400000 in
theorem F7_choice_ok (l : Launch)  {Q : Option Value → SQ → Prop} (v1 : Int32) (q : SQ) {res : Int32 × SQ} (h : F7_choice  v1 q = some res) (hk9 : Q (some (.int res.1)) res.2) : PF7_choice l Q 0 [(0, .ref 0), (1, .int v1)] [] q := by
  unfold F7_choice at h
  refine sx_aload_n dX7_choice_0 rfl rfl ?_
  refine sx_iconst (v := (0 : Int32)) dX7_choice_1 (by decide) ?_
  obtain ⟨q1, eq1, h⟩ := sx_lt h
  refine sx_putI dX7_choice_2 (hs := shM_0) (k9 := 0) (hf := rfl) cb_X7 ⟨by decide, rfl, gw_799⟩ rfl (by decide) ?_
  refine sx_nmQ eq1 ?_
  refine sx_aload_n dX7_choice_5 rfl rfl ?_
  refine sx_iload_n dX7_choice_6 rfl rfl ?_
  obtain ⟨z2, hz2, h⟩ := sx_bd h
  refine sx_callV (o := 0) (As := [.int v1]) (rest := []) KSM (F7_isChild_ck l  v1 q1 hz2) mi_X7_isChild gw_919 rfl ⟨gw_921, gw_40⟩ shM_0 rfl rfl ⟨Nat.le_of_ble_eq_true rfl, Nat.le_of_ble_eq_true rfl⟩ (Nat.le_of_ble_eq_true rfl) dX7_choice_7 rfl ?_
  refine sx_if_eq (tgt := 31) dX7_choice_10 (by decide) (fun c9 => ?_) (fun c9 => ?_)
  · replace h := sx_ip h c9
    refine sx_iconst (v := (-1 : Int32)) dX7_choice_31 (by decide) ?_
    obtain rfl := Option.some.inj h
    exact sx_iret dX7_choice_32 rfl hk9
  · replace h := sx_in h c9
    refine sx_aload_n dX7_choice_13 rfl rfl ?_
    refine sx_aload_n dX7_choice_14 rfl rfl ?_
    refine sx_getR dX7_choice_15 (hs := shM_0) (k9 := 11) (hf := rfl) cb_X7 ⟨by decide, rfl, gw_810⟩ ?_
    refine sx_iload_n dX7_choice_18 rfl rfl ?_
    refine sx_aload_n dX7_choice_19 rfl rfl ?_
    refine sx_getR dX7_choice_20 (hs := shM_0) (k9 := 11) (hf := rfl) cb_X7 ⟨by decide, rfl, gw_810⟩ ?_
    refine sx_iconst (v := (0 : Int32)) dX7_choice_23 (by decide) ?_
    refine sx_ialdC (j9 := 0) dX7_choice_24 shM_4 (fun _ _ => rfl) (by decide) (by decide) ?_
    obtain ⟨z3, hz3, h⟩ := sx_bd h
    refine sx_callV (o := 0) (As := [.ref 4, .int v1, .int (gI z2.2 4 0)]) (rest := []) KSM (F7_choiceOf_ck l 4 shM_4 v1 (gI z2.2 4 0) z2.2 hz3) mi_X7_choiceOf gw_974 rfl ⟨gw_976, gw_47⟩ shM_0 rfl rfl ⟨Nat.le_of_ble_eq_true rfl, Nat.le_of_ble_eq_true rfl⟩ (Nat.le_of_ble_eq_true rfl) dX7_choice_25 rfl ?_
    refine sx_goto (tgt := 32) dX7_choice_28 (by decide) ?_
    obtain rfl := Option.some.inj h
    exact sx_iret dX7_choice_32 rfl hk9
theorem F7_choice_ck (l : Launch)  (v1 : Int32) (q : SQ) {r : Int32 × SQ} (h : F7_choice  v1 q = some r) : CK shM vwCl KM tfM l yX7_choice cX7_choice 2 ((some .int)) 4 99 [.ref 0, .int v1] q (some (.int r.1)) r.2 :=
  CK.of mi_X7_choice (Nat.le_of_ble_eq_true rfl) (F7_choice_ok l  v1 q h ⟨rfl, rfl⟩)
theorem mi_X7_within : sx_MI yX7_within cX7_within 1 ((some .int)) 1 := ⟨by decide, ⟨by decide, by decide, by decide +kernel⟩, gw_988, gw_68⟩
abbrev PF7_within (l : Launch) (Q : Option Value → SQ → Prop) : Nat → List (Nat × Value) → List Value → SQ → Prop := XX shM vwCl KM tfM l RX7 cX7_within 1 ((some .int)) { frames := 0, cells := 0, slots := 0, locals := 0 } Q
def F7_within  (v0 : Int32) (q : SQ) : Option (Int32 × SQ) :=
  (if 0 ≤ v0 then (if v0 ≤ (100 : Int32) then some (v0, q) else some ((100 : Int32), q)) else some ((0 : Int32), q))
set_option maxHeartbeats 400000 in
theorem F7_within_ok (l : Launch)  {Q : Option Value → SQ → Prop} (v0 : Int32) (q : SQ) {res : Int32 × SQ} (h : F7_within  v0 q = some res) (hk9 : Q (some (.int res.1)) res.2) : PF7_within l Q 0 [(0, .int v0)] [] q := by
  unfold F7_within at h
  refine sx_iload_n dX7_within_0 rfl rfl ?_
  refine sx_if_ge (tgt := 8) dX7_within_1 (by decide) (fun c9 => ?_) (fun c9 => ?_)
  · replace h := sx_ip h c9
    refine sx_iload_n dX7_within_8 rfl rfl ?_
    refine sx_bipush (v := (100 : Int32)) dX7_within_9 (by decide) ?_
    refine sx_icmp_le (tgt := 19) dX7_within_11 (by decide) (fun c9 => ?_) (fun c9 => ?_)
    · replace h := sx_ip h c9
      refine sx_iload_n dX7_within_19 rfl rfl ?_
      obtain rfl := Option.some.inj h
      exact sx_iret dX7_within_20 rfl hk9
    · replace h := sx_in h c9
      refine sx_bipush (v := (100 : Int32)) dX7_within_14 (by decide) ?_
      refine sx_goto (tgt := 20) dX7_within_16 (by decide) ?_
      obtain rfl := Option.some.inj h
      exact sx_iret dX7_within_20 rfl hk9
  · replace h := sx_in h c9
    refine sx_iconst (v := (0 : Int32)) dX7_within_4 (by decide) ?_
    refine sx_goto (tgt := 20) dX7_within_5 (by decide) ?_
    obtain rfl := Option.some.inj h
    exact sx_iret dX7_within_20 rfl hk9
theorem F7_within_ck (l : Launch)  (v0 : Int32) (q : SQ) {r : Int32 × SQ} (h : F7_within  v0 q = some r) : CK shM vwCl KM tfM l yX7_within cX7_within 1 ((some .int)) 0 0 [.int v0] q (some (.int r.1)) r.2 :=
  CK.of mi_X7_within (Nat.le_of_ble_eq_true rfl) (F7_within_ok l  v0 q h ⟨rfl, rfl⟩)
theorem mi_X7_goesBy : sx_MI yX7_goesBy cX7_goesBy 12 ((some .int)) 1 := ⟨by decide, ⟨by decide, by decide, by decide +kernel⟩, gw_985, gw_68⟩
abbrev PF7_goesBy (l : Launch) (Q : Option Value → SQ → Prop) : Nat → List (Nat × Value) → List Value → SQ → Prop := XX shM vwCl KM tfM l RX7 cX7_goesBy 12 ((some .int)) { frames := 4, cells := 0, slots := 0, locals := 99 } Q
def F7_goesBy_323 (r1 : Nat) (v4 : Int32) (s0 : Int32) (s1 : Int32) (s2 : Int32) (q : SQ) : Option (Int32 × SQ) :=
  (F7_within  (s1 + s0) q).bind (fun z2 => (if sx_ix s2 27 = true then sx_let (sI z2.2 r1 s2.toNatClampNeg z2.1) (fun q3 => sx_let (sI q3 r1 0 ((gI q3 r1 0) + (1 : Int32))) (fun q4 => some (v4, q4))) else none))
set_option maxHeartbeats 400000 in
theorem F7_goesBy_323_ok (l : Launch) (r1 : Nat) (hr1 : iA27 r1) {Q : Option Value → SQ → Prop} (v4 : Int32) (s0 : Int32) (s1 : Int32) (s2 : Int32) (q : SQ) {res : Int32 × SQ} (h : F7_goesBy_323 r1 v4 s0 s1 s2 q = some res) (hk9 : Q (some (.int res.1)) res.2) : PF7_goesBy l Q 323 [(1, .ref r1), (4, .int v4)] [.int s0, .int s1, .int s2, .ref r1] q := by
  unfold F7_goesBy_323 at h
  refine sx_iadd dX7_goesBy_323 ?_
  obtain ⟨z2, hz2, h⟩ := sx_bd h
  refine sx_callS (As := [.int (s1 + s0)]) (rest := [.int s2, .ref r1]) KSM (F7_within_ck l  (s1 + s0) q hz2) mi_X7_within gw_986 rfl gw_987 ⟨Nat.le_of_ble_eq_true rfl, Nat.le_of_ble_eq_true rfl⟩ (Nat.le_of_ble_eq_true rfl) dX7_goesBy_324 rfl ?_
  obtain ⟨g9, h⟩ := sx_gd h
  obtain ⟨q3, eq3, h⟩ := sx_lt h
  refine sx_iast dX7_goesBy_327 hr1 (fun _ _ => rfl) (sx_ix_in g9) ?_
  refine sx_nmQ eq3 ?_
  refine sx_aload_n dX7_goesBy_328 rfl rfl ?_
  refine sx_iconst (v := (0 : Int32)) dX7_goesBy_329 (by decide) ?_
  refine sx_dup2_11 dX7_goesBy_330 rfl rfl ?_
  refine sx_ialdC (j9 := 0) dX7_goesBy_331 hr1 (fun _ _ => rfl) (by decide) (by decide) ?_
  refine sx_iconst (v := (1 : Int32)) dX7_goesBy_332 (by decide) ?_
  refine sx_iadd dX7_goesBy_333 ?_
  obtain ⟨q4, eq4, h⟩ := sx_lt h
  refine sx_iastC (j9 := 0) dX7_goesBy_334 hr1 (fun _ _ => rfl) (by decide) (by decide) ?_
  refine sx_nmQ eq4 ?_
  refine sx_iload dX7_goesBy_335 rfl ?_
  obtain rfl := Option.some.inj h
  exact sx_iret dX7_goesBy_337 rfl hk9
def F7_goesBy_298 (r1 : Nat) (v4 : Int32) (v5 : Int32) (s0 : Int32) (q : SQ) : Option (Int32 × SQ) :=
  (if v5 = 0 then F7_goesBy_323 r1 v4 (gI q 3 5) ((gI q r1 1) - s0) (1 : Int32) q else F7_goesBy_323 r1 v4 (0 : Int32) ((gI q r1 1) - s0) (1 : Int32) q)
set_option maxHeartbeats 400000 in
theorem F7_goesBy_298_ok (l : Launch) (r1 : Nat) (hr1 : iA27 r1) {Q : Option Value → SQ → Prop} (v4 : Int32) (v5 : Int32) (s0 : Int32) (q : SQ) {res : Int32 × SQ} (h : F7_goesBy_298 r1 v4 v5 s0 q = some res) (hk9 : Q (some (.int res.1)) res.2) : PF7_goesBy l Q 298 [(0, .ref 0), (1, .ref r1), (4, .int v4), (5, .int v5)] [.int s0] q := by
  unfold F7_goesBy_298 at h
  refine sx_istore (ls2 := [(6, .int s0), (0, .ref 0), (1, .ref r1), (4, .int v4), (5, .int v5)]) dX7_goesBy_298 (by decide) rfl ?_
  refine sx_aload_n dX7_goesBy_300 rfl rfl ?_
  refine sx_iconst (v := (1 : Int32)) dX7_goesBy_301 (by decide) ?_
  refine sx_aload_n dX7_goesBy_302 rfl rfl ?_
  refine sx_iconst (v := (1 : Int32)) dX7_goesBy_303 (by decide) ?_
  refine sx_ialdC (j9 := 1) dX7_goesBy_304 hr1 (fun _ _ => rfl) (by decide) (by decide) ?_
  refine sx_iload dX7_goesBy_305 rfl ?_
  refine sx_isub dX7_goesBy_307 ?_
  refine sx_iload dX7_goesBy_308 rfl ?_
  refine sx_if_eq (tgt := 317) dX7_goesBy_310 (by decide) (fun c9 => ?_) (fun c9 => ?_)
  · replace h := sx_ip h c9
    refine sx_aload_n dX7_goesBy_317 rfl rfl ?_
    refine sx_getR dX7_goesBy_318 (hs := shM_0) (k9 := 10) (hf := rfl) cb_X7 ⟨by decide, rfl, gw_809⟩ ?_
    refine sx_iconst (v := (5 : Int32)) dX7_goesBy_321 (by decide) ?_
    refine sx_ialdC (j9 := 5) dX7_goesBy_322 shM_3 (fun _ _ => rfl) (by decide) (by decide) ?_
    refine sx_locs [2, 3] rfl ?_
    exact F7_goesBy_323_ok l r1 hr1 v4 (gI q 3 5) ((gI q r1 1) - s0) (1 : Int32) q h hk9
  · replace h := sx_in h c9
    refine sx_iconst (v := (0 : Int32)) dX7_goesBy_313 (by decide) ?_
    refine sx_goto (tgt := 323) dX7_goesBy_314 (by decide) ?_
    refine sx_locs [2, 3] rfl ?_
    exact F7_goesBy_323_ok l r1 hr1 v4 (0 : Int32) ((gI q r1 1) - s0) (1 : Int32) q h hk9
def F7_goesBy_256 (r1 : Nat) (v2 : Int32) (v3 : Int32) (v4 : Int32) (v6 : Int32) (s0 : Int32) (s1 : Int32) (q : SQ) : Option ((Int32 × Int32 × SQ) ⊕ (Int32 × SQ)) :=
  sx_let (s1 ||| s0) (fun x6 => sx_let (v6 + (1 : Int32)) (fun x7 => some (.inl (x6, x7, q))))
set_option maxHeartbeats 400000 in
theorem F7_goesBy_256_ok (l : Launch) (r1 : Nat) (hr1 : iA27 r1) {Q : Option Value → SQ → Prop} (v2 : Int32) (v3 : Int32) (v4 : Int32) (v6 : Int32) (s0 : Int32) (s1 : Int32) (q : SQ) {res : (Int32 × Int32 × SQ) ⊕ (Int32 × SQ)} (h : F7_goesBy_256 r1 v2 v3 v4 v6 s0 s1 q = some res) (hk9 : (∀ a8, res = .inl a8 → PF7_goesBy l Q 227 [(0, .ref 0), (1, .ref r1), (2, .int v2), (3, .int v3), (4, .int v4), (5, .int a8.1), (6, .int a8.2.1)] [] a8.2.2) ∧ (∀ b9, res = .inr b9 → Q (some (.int b9.1)) b9.2)) : PF7_goesBy l Q 256 [(0, .ref 0), (1, .ref r1), (2, .int v2), (3, .int v3), (4, .int v4), (6, .int v6)] [.int s0, .int s1] q := by
  unfold F7_goesBy_256 at h
  refine sx_ior dX7_goesBy_256 ?_
  obtain ⟨x6, ex6, h⟩ := sx_lt h
  refine sx_nmI ex6 ?_
  refine sx_istore (ls2 := [(5, .int x6), (0, .ref 0), (1, .ref r1), (2, .int v2), (3, .int v3), (4, .int v4), (6, .int v6)]) dX7_goesBy_257 (by decide) rfl ?_
  obtain ⟨x7, ex7, h⟩ := sx_lt h
  refine sx_iinc (k9 := 6) (v := x7) (ls2 := [(6, .int x7), (5, .int x6), (0, .ref 0), (1, .ref r1), (2, .int v2), (3, .int v3), (4, .int v4)]) dX7_goesBy_259 rfl (by rw [ex7, sx_ofI1]) (by decide) rfl ?_
  refine sx_goto (tgt := 227) dX7_goesBy_262 (by decide) ?_
  refine sx_locs [2, 3, 4, 5, 6, 1, 0] rfl ?_
  exact hk9.1 (x6, x7, q) (Option.some.inj h).symm
def F7_goesBy_227b (r1 : Nat) (v2 : Int32) (v3 : Int32) (v4 : Int32) (v5 : Int32) (v6 : Int32) (q : SQ) : Option ((Int32 × Int32 × SQ) ⊕ (Int32 × SQ)) :=
  (if gI q 2 41 ≤ v6 then (if gI q 2 40 = 0 then (F7_goesBy_298 r1 v4 v5 (0 : Int32) q).map .inr else (if sx_n0 ((10 : Int32) * (gI q 2 40)) = true then (F7_goesBy_298 r1 v4 v5 (((gI q 3 4) * v3) / ((10 : Int32) * (gI q 2 40))) q).map .inr else none)) else (F7_givenOf  v6 v2 q).bind (fun z5 => (if z5.1 ≤ 0 then F7_goesBy_256 r1 v2 v3 v4 v6 (0 : Int32) v5 z5.2 else F7_goesBy_256 r1 v2 v3 v4 v6 (1 : Int32) v5 z5.2)))
set_option maxHeartbeats 400000 in
theorem F7_goesBy_227b_ok (l : Launch) (r1 : Nat) (hr1 : iA27 r1) {Q : Option Value → SQ → Prop} (v2 : Int32) (v3 : Int32) (v4 : Int32) (v5 : Int32) (v6 : Int32) (q : SQ) {res : (Int32 × Int32 × SQ) ⊕ (Int32 × SQ)} (h : F7_goesBy_227b r1 v2 v3 v4 v5 v6 q = some res) (hk9 : (∀ a10, res = .inl a10 → PF7_goesBy l Q 227 [(0, .ref 0), (1, .ref r1), (2, .int v2), (3, .int v3), (4, .int v4), (5, .int a10.1), (6, .int a10.2.1)] [] a10.2.2) ∧ (∀ b11, res = .inr b11 → Q (some (.int b11.1)) b11.2)) : PF7_goesBy l Q 227 [(0, .ref 0), (1, .ref r1), (2, .int v2), (3, .int v3), (4, .int v4), (5, .int v5), (6, .int v6)] [] q := by
  unfold F7_goesBy_227b at h
  refine sx_iload dX7_goesBy_227 rfl ?_
  refine sx_aload_n dX7_goesBy_229 rfl rfl ?_
  refine sx_getR dX7_goesBy_230 (hs := shM_0) (k9 := 9) (hf := rfl) cb_X7 ⟨by decide, rfl, gw_808⟩ ?_
  refine sx_bipush (v := (41 : Int32)) dX7_goesBy_233 (by decide) ?_
  refine sx_ialdC (j9 := 41) dX7_goesBy_235 shM_2 (fun _ _ => rfl) (by decide) (by decide) ?_
  refine sx_icmp_ge (tgt := 265) dX7_goesBy_236 (by decide) (fun c9 => ?_) (fun c9 => ?_)
  · replace h := sx_ip h c9
    refine sx_aload_n dX7_goesBy_265 rfl rfl ?_
    refine sx_getR dX7_goesBy_266 (hs := shM_0) (k9 := 9) (hf := rfl) cb_X7 ⟨by decide, rfl, gw_808⟩ ?_
    refine sx_bipush (v := (40 : Int32)) dX7_goesBy_269 (by decide) ?_
    refine sx_ialdC (j9 := 40) dX7_goesBy_271 shM_2 (fun _ _ => rfl) (by decide) (by decide) ?_
    refine sx_if_ne (tgt := 279) dX7_goesBy_272 (by decide) (fun c9 => ?_) (fun c9 => ?_)
    · replace h := sx_in h c9
      refine sx_aload_n dX7_goesBy_279 rfl rfl ?_
      refine sx_getR dX7_goesBy_280 (hs := shM_0) (k9 := 10) (hf := rfl) cb_X7 ⟨by decide, rfl, gw_809⟩ ?_
      refine sx_iconst (v := (4 : Int32)) dX7_goesBy_283 (by decide) ?_
      refine sx_ialdC (j9 := 4) dX7_goesBy_284 shM_3 (fun _ _ => rfl) (by decide) (by decide) ?_
      refine sx_iload_n dX7_goesBy_285 rfl rfl ?_
      refine sx_imul dX7_goesBy_286 ?_
      refine sx_bipush (v := (10 : Int32)) dX7_goesBy_287 (by decide) ?_
      refine sx_aload_n dX7_goesBy_289 rfl rfl ?_
      refine sx_getR dX7_goesBy_290 (hs := shM_0) (k9 := 9) (hf := rfl) cb_X7 ⟨by decide, rfl, gw_808⟩ ?_
      refine sx_bipush (v := (40 : Int32)) dX7_goesBy_293 (by decide) ?_
      refine sx_ialdC (j9 := 40) dX7_goesBy_295 shM_2 (fun _ _ => rfl) (by decide) (by decide) ?_
      refine sx_imul dX7_goesBy_296 ?_
      obtain ⟨g9, h⟩ := sx_gd h
      refine sx_idiv dX7_goesBy_297 (sx_nz g9) ?_
      obtain ⟨t9, h, hr9⟩ := sx_mp h
      have hk9 := hk9.2 _ hr9
      refine sx_locs [0, 1, 4, 5] rfl ?_
      exact F7_goesBy_298_ok l r1 hr1 v4 v5 (((gI q 3 4) * v3) / ((10 : Int32) * (gI q 2 40))) q h hk9
    · replace h := sx_ip h c9
      refine sx_iconst (v := (0 : Int32)) dX7_goesBy_275 (by decide) ?_
      refine sx_goto (tgt := 298) dX7_goesBy_276 (by decide) ?_
      obtain ⟨t9, h, hr9⟩ := sx_mp h
      have hk9 := hk9.2 _ hr9
      refine sx_locs [0, 1, 4, 5] rfl ?_
      exact F7_goesBy_298_ok l r1 hr1 v4 v5 (0 : Int32) q h hk9
  · replace h := sx_in h c9
    refine sx_iload dX7_goesBy_239 rfl ?_
    refine sx_aload_n dX7_goesBy_241 rfl rfl ?_
    refine sx_iload dX7_goesBy_242 rfl ?_
    refine sx_iload_n dX7_goesBy_244 rfl rfl ?_
    obtain ⟨z5, hz5, h⟩ := sx_bd h
    refine sx_callV (o := 0) (As := [.int v6, .int v2]) (rest := [.int v5]) KSM (F7_givenOf_ck l  v6 v2 q hz5) mi_X7_givenOf gw_946 rfl ⟨gw_948, gw_42⟩ shM_0 rfl rfl ⟨Nat.le_of_ble_eq_true rfl, Nat.le_of_ble_eq_true rfl⟩ (Nat.le_of_ble_eq_true rfl) dX7_goesBy_245 rfl ?_
    refine sx_if_le (tgt := 255) dX7_goesBy_248 (by decide) (fun c9 => ?_) (fun c9 => ?_)
    · replace h := sx_ip h c9
      refine sx_iconst (v := (0 : Int32)) dX7_goesBy_255 (by decide) ?_
      refine sx_locs [0, 1, 2, 3, 4, 6] rfl ?_
      exact F7_goesBy_256_ok l r1 hr1 v2 v3 v4 v6 (0 : Int32) v5 z5.2 h hk9
    · replace h := sx_in h c9
      refine sx_iconst (v := (1 : Int32)) dX7_goesBy_251 (by decide) ?_
      refine sx_goto (tgt := 256) dX7_goesBy_252 (by decide) ?_
      refine sx_locs [0, 1, 2, 3, 4, 6] rfl ?_
      exact F7_goesBy_256_ok l r1 hr1 v2 v3 v4 v6 (1 : Int32) v5 z5.2 h hk9
def F7_goesBy_227 (r1 : Nat) (v2 : Int32) (v3 : Int32) (v4 : Int32) (v5 : Int32) (v6 : Int32) (q : SQ) : Option (Int32 × SQ) := sx_loop (fun s12 => F7_goesBy_227b r1 v2 v3 v4 s12.1 s12.2.1 s12.2.2) FU (v5, v6, q)
set_option maxHeartbeats 400000 in
theorem F7_goesBy_227_ok (l : Launch) (r1 : Nat) (hr1 : iA27 r1) {Q : Option Value → SQ → Prop} (v2 : Int32) (v3 : Int32) (v4 : Int32) (v5 : Int32) (v6 : Int32) (q : SQ) {t : Int32 × SQ} (h : F7_goesBy_227 r1 v2 v3 v4 v5 v6 q = some t) (hk9 : Q (some (.int t.1)) t.2) : PF7_goesBy l Q 227 [(0, .ref 0), (1, .ref r1), (2, .int v2), (3, .int v3), (4, .int v4), (5, .int v5), (6, .int v6)] [] q := by
  unfold F7_goesBy_227 at h
  have st : ∀ (s : Int32 × Int32 × SQ) (res : (Int32 × Int32 × SQ) ⊕ (Int32 × SQ)), F7_goesBy_227b r1 v2 v3 v4 s.1 s.2.1 s.2.2 = some res → (∀ s2, res = .inl s2 → PF7_goesBy l Q 227 [(0, .ref 0), (1, .ref r1), (2, .int v2), (3, .int v3), (4, .int v4), (5, .int s2.1), (6, .int s2.2.1)] [] s2.2.2) → (∀ t2, res = .inr t2 → Q (some (.int t2.1)) t2.2) → PF7_goesBy l Q 227 [(0, .ref 0), (1, .ref r1), (2, .int v2), (3, .int v3), (4, .int v4), (5, .int s.1), (6, .int s.2.1)] [] s.2.2 :=
    fun s res hb hi ho => F7_goesBy_227b_ok l r1 hr1 v2 v3 v4 s.1 s.2.1 s.2.2 hb ⟨hi, ho⟩
  have h9 : PF7_goesBy l Q 227 [(0, .ref 0), (1, .ref r1), (2, .int v2), (3, .int v3), (4, .int v4), (5, .int v5), (6, .int v6)] [] q := sx_lp (body := fun s => F7_goesBy_227b r1 v2 v3 v4 s.1 s.2.1 s.2.2) (P := fun s => PF7_goesBy l Q 227 [(0, .ref 0), (1, .ref r1), (2, .int v2), (3, .int v3), (4, .int v4), (5, .int s.1), (6, .int s.2.1)] [] s.2.2) (T := fun t => Q (some (.int t.1)) t.2) st FU (v5, v6, q) t h hk9
  exact h9
def F7_goesBy_215 (r1 : Nat) (v2 : Int32) (v3 : Int32) (v4 : Int32) (v5 : Int32) (q : SQ) : Option ((Int32 × Int32 × Int32 × SQ) ⊕ (Int32 × SQ)) :=
  sx_let (v5 + (1 : Int32)) (fun x15 => some (.inl (v3, v4, x15, q)))
set_option maxHeartbeats 400000 in
theorem F7_goesBy_215_ok (l : Launch) (r1 : Nat) (hr1 : iA27 r1) {Q : Option Value → SQ → Prop} (v2 : Int32) (v3 : Int32) (v4 : Int32) (v5 : Int32) (q : SQ) {res : (Int32 × Int32 × Int32 × SQ) ⊕ (Int32 × SQ)} (h : F7_goesBy_215 r1 v2 v3 v4 v5 q = some res) (hk9 : (∀ a16, res = .inl a16 → PF7_goesBy l Q 12 [(0, .ref 0), (1, .ref r1), (2, .int v2), (3, .int a16.1), (4, .int a16.2.1), (5, .int a16.2.2.1)] [] a16.2.2.2) ∧ (∀ b17, res = .inr b17 → Q (some (.int b17.1)) b17.2)) : PF7_goesBy l Q 215 [(0, .ref 0), (1, .ref r1), (2, .int v2), (3, .int v3), (4, .int v4), (5, .int v5)] [] q := by
  unfold F7_goesBy_215 at h
  obtain ⟨x15, ex15, h⟩ := sx_lt h
  refine sx_iinc (k9 := 5) (v := x15) (ls2 := [(5, .int x15), (0, .ref 0), (1, .ref r1), (2, .int v2), (3, .int v3), (4, .int v4)]) dX7_goesBy_215 rfl (by rw [ex15, sx_ofI1]) (by decide) rfl ?_
  refine sx_goto (tgt := 12) dX7_goesBy_218 (by decide) ?_
  refine sx_locs [1, 2, 3, 4, 5, 0] rfl ?_
  exact hk9.1 (v3, v4, x15, q) (Option.some.inj h).symm
def F7_goesBy_172 (r1 : Nat) (v2 : Int32) (v3 : Int32) (v4 : Int32) (v5 : Int32) (v7 : Int32) (v8 : Int32) (v10 : Int32) (v11 : Int32) (q : SQ) : Option ((Int32 × Int32 × Int32 × SQ) ⊕ (Int32 × SQ)) :=
  (F7_within  v11 q).bind (fun z26 => (if sx_ix v10 27 = true then sx_let (sI z26.2 r1 v10.toNatClampNeg z26.1) (fun q27 => (if sx_ix (v10 + (1 : Int32)) 27 = true then (if sx_ix (v10 + (1 : Int32)) 27 = true then sx_let (sI q27 r1 (v10 + (1 : Int32)).toNatClampNeg ((gI q27 r1 (v10 + (1 : Int32)).toNatClampNeg) + v7)) (fun q28 => (if sx_ix (v10 + (2 : Int32)) 27 = true then (if sx_ix (v10 + (2 : Int32)) 27 = true then sx_let (sI q28 r1 (v10 + (2 : Int32)).toNatClampNeg ((gI q28 r1 (v10 + (2 : Int32)).toNatClampNeg) + v8)) (fun q29 => sx_let (v4 + v7) (fun x30 => sx_let (v3 + v8) (fun x31 => F7_goesBy_215 r1 v2 x31 x30 v5 q29))) else none) else none)) else none) else none)) else none))
set_option maxHeartbeats 400000 in
theorem F7_goesBy_172_ok (l : Launch) (r1 : Nat) (hr1 : iA27 r1) {Q : Option Value → SQ → Prop} (v2 : Int32) (v3 : Int32) (v4 : Int32) (v5 : Int32) (v7 : Int32) (v8 : Int32) (v10 : Int32) (v11 : Int32) (q : SQ) {res : (Int32 × Int32 × Int32 × SQ) ⊕ (Int32 × SQ)} (h : F7_goesBy_172 r1 v2 v3 v4 v5 v7 v8 v10 v11 q = some res) (hk9 : (∀ a32, res = .inl a32 → PF7_goesBy l Q 12 [(0, .ref 0), (1, .ref r1), (2, .int v2), (3, .int a32.1), (4, .int a32.2.1), (5, .int a32.2.2.1)] [] a32.2.2.2) ∧ (∀ b33, res = .inr b33 → Q (some (.int b33.1)) b33.2)) : PF7_goesBy l Q 172 [(0, .ref 0), (1, .ref r1), (2, .int v2), (3, .int v3), (4, .int v4), (5, .int v5), (7, .int v7), (8, .int v8), (10, .int v10), (11, .int v11)] [] q := by
  unfold F7_goesBy_172 at h
  refine sx_aload_n dX7_goesBy_172 rfl rfl ?_
  refine sx_iload dX7_goesBy_173 rfl ?_
  refine sx_iload dX7_goesBy_175 rfl ?_
  obtain ⟨z26, hz26, h⟩ := sx_bd h
  refine sx_callS (As := [.int v11]) (rest := [.int v10, .ref r1]) KSM (F7_within_ck l  v11 q hz26) mi_X7_within gw_986 rfl gw_987 ⟨Nat.le_of_ble_eq_true rfl, Nat.le_of_ble_eq_true rfl⟩ (Nat.le_of_ble_eq_true rfl) dX7_goesBy_177 rfl ?_
  obtain ⟨g9, h⟩ := sx_gd h
  obtain ⟨q27, eq27, h⟩ := sx_lt h
  refine sx_iast dX7_goesBy_180 hr1 (fun _ _ => rfl) (sx_ix_in g9) ?_
  refine sx_nmQ eq27 ?_
  refine sx_aload_n dX7_goesBy_181 rfl rfl ?_
  refine sx_iload dX7_goesBy_182 rfl ?_
  refine sx_iconst (v := (1 : Int32)) dX7_goesBy_184 (by decide) ?_
  refine sx_iadd dX7_goesBy_185 ?_
  refine sx_dup2_11 dX7_goesBy_186 rfl rfl ?_
  obtain ⟨g9, h⟩ := sx_gd h
  refine sx_iald dX7_goesBy_187 hr1 (fun _ _ => rfl) (sx_ix_in g9) ?_
  refine sx_iload dX7_goesBy_188 rfl ?_
  refine sx_iadd dX7_goesBy_190 ?_
  obtain ⟨g9, h⟩ := sx_gd h
  obtain ⟨q28, eq28, h⟩ := sx_lt h
  refine sx_iast dX7_goesBy_191 hr1 (fun _ _ => rfl) (sx_ix_in g9) ?_
  refine sx_nmQ eq28 ?_
  refine sx_aload_n dX7_goesBy_192 rfl rfl ?_
  refine sx_iload dX7_goesBy_193 rfl ?_
  refine sx_iconst (v := (2 : Int32)) dX7_goesBy_195 (by decide) ?_
  refine sx_iadd dX7_goesBy_196 ?_
  refine sx_dup2_11 dX7_goesBy_197 rfl rfl ?_
  obtain ⟨g9, h⟩ := sx_gd h
  refine sx_iald dX7_goesBy_198 hr1 (fun _ _ => rfl) (sx_ix_in g9) ?_
  refine sx_iload dX7_goesBy_199 rfl ?_
  refine sx_iadd dX7_goesBy_201 ?_
  obtain ⟨g9, h⟩ := sx_gd h
  obtain ⟨q29, eq29, h⟩ := sx_lt h
  refine sx_iast dX7_goesBy_202 hr1 (fun _ _ => rfl) (sx_ix_in g9) ?_
  refine sx_nmQ eq29 ?_
  refine sx_iload dX7_goesBy_203 rfl ?_
  refine sx_iload dX7_goesBy_205 rfl ?_
  refine sx_iadd dX7_goesBy_207 ?_
  obtain ⟨x30, ex30, h⟩ := sx_lt h
  refine sx_nmI ex30 ?_
  refine sx_istore (ls2 := [(4, .int x30), (0, .ref 0), (1, .ref r1), (2, .int v2), (3, .int v3), (5, .int v5), (7, .int v7), (8, .int v8), (10, .int v10), (11, .int v11)]) dX7_goesBy_208 (by decide) rfl ?_
  refine sx_iload_n dX7_goesBy_210 rfl rfl ?_
  refine sx_iload dX7_goesBy_211 rfl ?_
  refine sx_iadd dX7_goesBy_213 ?_
  obtain ⟨x31, ex31, h⟩ := sx_lt h
  refine sx_nmI ex31 ?_
  refine sx_istore_n (ls2 := [(3, .int x31), (4, .int x30), (0, .ref 0), (1, .ref r1), (2, .int v2), (5, .int v5), (7, .int v7), (8, .int v8), (10, .int v10), (11, .int v11)]) dX7_goesBy_214 rfl (by decide) rfl ?_
  refine sx_locs [2, 3, 4, 0, 1, 5] rfl ?_
  exact F7_goesBy_215_ok l r1 hr1 v2 x31 x30 v5 q29 h hk9
def F7_goesBy_146 (r1 : Nat) (v2 : Int32) (v3 : Int32) (v4 : Int32) (v5 : Int32) (v7 : Int32) (v8 : Int32) (v10 : Int32) (v11 : Int32) (q : SQ) : Option ((Int32 × Int32 × Int32 × SQ) ⊕ (Int32 × SQ)) :=
  (if gI q 2 38 = 0 then (if v8 ≤ 0 then F7_goesBy_172 r1 v2 v3 v4 v5 v7 v8 v10 v11 q else sx_let (v11 + (gI q 3 3)) (fun x34 => F7_goesBy_172 r1 v2 v3 v4 v5 v7 v8 v10 x34 q)) else F7_goesBy_172 r1 v2 v3 v4 v5 v7 v8 v10 v11 q)
set_option maxHeartbeats 400000 in
theorem F7_goesBy_146_ok (l : Launch) (r1 : Nat) (hr1 : iA27 r1) {Q : Option Value → SQ → Prop} (v2 : Int32) (v3 : Int32) (v4 : Int32) (v5 : Int32) (v7 : Int32) (v8 : Int32) (v10 : Int32) (v11 : Int32) (q : SQ) {res : (Int32 × Int32 × Int32 × SQ) ⊕ (Int32 × SQ)} (h : F7_goesBy_146 r1 v2 v3 v4 v5 v7 v8 v10 v11 q = some res) (hk9 : (∀ a35, res = .inl a35 → PF7_goesBy l Q 12 [(0, .ref 0), (1, .ref r1), (2, .int v2), (3, .int a35.1), (4, .int a35.2.1), (5, .int a35.2.2.1)] [] a35.2.2.2) ∧ (∀ b36, res = .inr b36 → Q (some (.int b36.1)) b36.2)) : PF7_goesBy l Q 146 [(0, .ref 0), (1, .ref r1), (2, .int v2), (3, .int v3), (4, .int v4), (5, .int v5), (7, .int v7), (8, .int v8), (10, .int v10), (11, .int v11)] [] q := by
  unfold F7_goesBy_146 at h
  refine sx_aload_n dX7_goesBy_146 rfl rfl ?_
  refine sx_getR dX7_goesBy_147 (hs := shM_0) (k9 := 9) (hf := rfl) cb_X7 ⟨by decide, rfl, gw_808⟩ ?_
  refine sx_bipush (v := (38 : Int32)) dX7_goesBy_150 (by decide) ?_
  refine sx_ialdC (j9 := 38) dX7_goesBy_152 shM_2 (fun _ _ => rfl) (by decide) (by decide) ?_
  refine sx_if_ne (tgt := 172) dX7_goesBy_153 (by decide) (fun c9 => ?_) (fun c9 => ?_)
  · replace h := sx_in h c9
    exact F7_goesBy_172_ok l r1 hr1 v2 v3 v4 v5 v7 v8 v10 v11 q h hk9
  · replace h := sx_ip h c9
    refine sx_iload dX7_goesBy_156 rfl ?_
    refine sx_if_le (tgt := 172) dX7_goesBy_158 (by decide) (fun c9 => ?_) (fun c9 => ?_)
    · replace h := sx_ip h c9
      exact F7_goesBy_172_ok l r1 hr1 v2 v3 v4 v5 v7 v8 v10 v11 q h hk9
    · replace h := sx_in h c9
      refine sx_iload dX7_goesBy_161 rfl ?_
      refine sx_aload_n dX7_goesBy_163 rfl rfl ?_
      refine sx_getR dX7_goesBy_164 (hs := shM_0) (k9 := 10) (hf := rfl) cb_X7 ⟨by decide, rfl, gw_809⟩ ?_
      refine sx_iconst (v := (3 : Int32)) dX7_goesBy_167 (by decide) ?_
      refine sx_ialdC (j9 := 3) dX7_goesBy_168 shM_3 (fun _ _ => rfl) (by decide) (by decide) ?_
      refine sx_iadd dX7_goesBy_169 ?_
      obtain ⟨x34, ex34, h⟩ := sx_lt h
      refine sx_nmI ex34 ?_
      refine sx_istore (ls2 := [(11, .int x34), (0, .ref 0), (1, .ref r1), (2, .int v2), (3, .int v3), (4, .int v4), (5, .int v5), (7, .int v7), (8, .int v8), (10, .int v10)]) dX7_goesBy_170 (by decide) rfl ?_
      refine sx_locs [1, 2, 3, 4, 5, 6, 7, 8, 9, 0] rfl ?_
      exact F7_goesBy_172_ok l r1 hr1 v2 v3 v4 v5 v7 v8 v10 x34 q h hk9
def F7_goesBy_102 (r1 : Nat) (v2 : Int32) (v3 : Int32) (v4 : Int32) (v5 : Int32) (v6 : Int32) (v7 : Int32) (v8 : Int32) (v9 : Int32) (v10 : Int32) (s0 : Int32) (s1 : Int32) (q : SQ) : Option ((Int32 × Int32 × Int32 × SQ) ⊕ (Int32 × SQ)) :=
  sx_let (s1 + s0) (fun x25 => (if gI q 2 38 = (1 : Int32) then (if v9 ≤ 0 then F7_goesBy_146 r1 v2 v3 v4 v5 v7 v8 v10 x25 q else (F7_wantOf r1 v5 v6 v2 q).bind (fun z37 => (if sx_n0 z37.1 = true then sx_let (x25 - (((gI q 3 2) * v9) / z37.1)) (fun x38 => F7_goesBy_146 r1 v2 v3 v4 v5 v7 v8 v10 x38 z37.2) else none))) else F7_goesBy_146 r1 v2 v3 v4 v5 v7 v8 v10 x25 q))
set_option maxHeartbeats 400000 in
theorem F7_goesBy_102_ok (l : Launch) (r1 : Nat) (hr1 : iA27 r1) {Q : Option Value → SQ → Prop} (v2 : Int32) (v3 : Int32) (v4 : Int32) (v5 : Int32) (v6 : Int32) (v7 : Int32) (v8 : Int32) (v9 : Int32) (v10 : Int32) (s0 : Int32) (s1 : Int32) (q : SQ) {res : (Int32 × Int32 × Int32 × SQ) ⊕ (Int32 × SQ)} (h : F7_goesBy_102 r1 v2 v3 v4 v5 v6 v7 v8 v9 v10 s0 s1 q = some res) (hk9 : (∀ a39, res = .inl a39 → PF7_goesBy l Q 12 [(0, .ref 0), (1, .ref r1), (2, .int v2), (3, .int a39.1), (4, .int a39.2.1), (5, .int a39.2.2.1)] [] a39.2.2.2) ∧ (∀ b40, res = .inr b40 → Q (some (.int b40.1)) b40.2)) : PF7_goesBy l Q 102 [(0, .ref 0), (1, .ref r1), (2, .int v2), (3, .int v3), (4, .int v4), (5, .int v5), (6, .int v6), (7, .int v7), (8, .int v8), (9, .int v9), (10, .int v10)] [.int s0, .int s1] q := by
  unfold F7_goesBy_102 at h
  refine sx_iadd dX7_goesBy_102 ?_
  obtain ⟨x25, ex25, h⟩ := sx_lt h
  refine sx_nmI ex25 ?_
  refine sx_istore (ls2 := [(11, .int x25), (0, .ref 0), (1, .ref r1), (2, .int v2), (3, .int v3), (4, .int v4), (5, .int v5), (6, .int v6), (7, .int v7), (8, .int v8), (9, .int v9), (10, .int v10)]) dX7_goesBy_103 (by decide) rfl ?_
  refine sx_aload_n dX7_goesBy_105 rfl rfl ?_
  refine sx_getR dX7_goesBy_106 (hs := shM_0) (k9 := 9) (hf := rfl) cb_X7 ⟨by decide, rfl, gw_808⟩ ?_
  refine sx_bipush (v := (38 : Int32)) dX7_goesBy_109 (by decide) ?_
  refine sx_ialdC (j9 := 38) dX7_goesBy_111 shM_2 (fun _ _ => rfl) (by decide) (by decide) ?_
  refine sx_iconst (v := (1 : Int32)) dX7_goesBy_112 (by decide) ?_
  refine sx_icmp_ne (tgt := 146) dX7_goesBy_113 (by decide) (fun c9 => ?_) (fun c9 => ?_)
  · replace h := sx_in h c9
    refine sx_locs [1, 2, 3, 4, 5, 6, 8, 9, 11, 0] rfl ?_
    exact F7_goesBy_146_ok l r1 hr1 v2 v3 v4 v5 v7 v8 v10 x25 q h hk9
  · replace h := sx_ip h c9
    refine sx_iload dX7_goesBy_116 rfl ?_
    refine sx_if_le (tgt := 146) dX7_goesBy_118 (by decide) (fun c9 => ?_) (fun c9 => ?_)
    · replace h := sx_ip h c9
      refine sx_locs [1, 2, 3, 4, 5, 6, 8, 9, 11, 0] rfl ?_
      exact F7_goesBy_146_ok l r1 hr1 v2 v3 v4 v5 v7 v8 v10 x25 q h hk9
    · replace h := sx_in h c9
      refine sx_iload dX7_goesBy_121 rfl ?_
      refine sx_aload_n dX7_goesBy_123 rfl rfl ?_
      refine sx_getR dX7_goesBy_124 (hs := shM_0) (k9 := 10) (hf := rfl) cb_X7 ⟨by decide, rfl, gw_809⟩ ?_
      refine sx_iconst (v := (2 : Int32)) dX7_goesBy_127 (by decide) ?_
      refine sx_ialdC (j9 := 2) dX7_goesBy_128 shM_3 (fun _ _ => rfl) (by decide) (by decide) ?_
      refine sx_iload dX7_goesBy_129 rfl ?_
      refine sx_imul dX7_goesBy_131 ?_
      refine sx_aload_n dX7_goesBy_132 rfl rfl ?_
      refine sx_aload_n dX7_goesBy_133 rfl rfl ?_
      refine sx_iload dX7_goesBy_134 rfl ?_
      refine sx_iload dX7_goesBy_136 rfl ?_
      refine sx_iload_n dX7_goesBy_138 rfl rfl ?_
      obtain ⟨z37, hz37, h⟩ := sx_bd h
      refine sx_callV (o := 0) (As := [.ref r1, .int v5, .int v6, .int v2]) (rest := [.int ((gI q 3 2) * v9), .int x25]) KSM (F7_wantOf_ck l r1 hr1 v5 v6 v2 q hz37) mi_X7_wantOf gw_966 rfl ⟨gw_968, gw_46⟩ shM_0 rfl rfl ⟨Nat.le_of_ble_eq_true rfl, Nat.le_of_ble_eq_true rfl⟩ (Nat.le_of_ble_eq_true rfl) dX7_goesBy_139 rfl ?_
      obtain ⟨g9, h⟩ := sx_gd h
      refine sx_idiv dX7_goesBy_142 (sx_nz g9) ?_
      refine sx_isub dX7_goesBy_143 ?_
      obtain ⟨x38, ex38, h⟩ := sx_lt h
      refine sx_nmI ex38 ?_
      refine sx_istore (ls2 := [(11, .int x38), (0, .ref 0), (1, .ref r1), (2, .int v2), (3, .int v3), (4, .int v4), (5, .int v5), (6, .int v6), (7, .int v7), (8, .int v8), (9, .int v9), (10, .int v10)]) dX7_goesBy_144 (by decide) rfl ?_
      refine sx_locs [1, 2, 3, 4, 5, 6, 8, 9, 11, 0] rfl ?_
      exact F7_goesBy_146_ok l r1 hr1 v2 v3 v4 v5 v7 v8 v10 x38 z37.2 h hk9
def F7_goesBy_12b (r1 : Nat) (v2 : Int32) (v3 : Int32) (v4 : Int32) (v5 : Int32) (q : SQ) : Option ((Int32 × Int32 × Int32 × SQ) ⊕ (Int32 × SQ)) :=
  (if gI q 2 40 ≤ v5 then (F7_goesBy_227 r1 v2 v3 v4 (0 : Int32) (0 : Int32) q).map .inr else (F7_choiceOf r1 v5 v2 q).bind (fun z13 => sx_let z13.1 (fun x14 => (if x14 = (-9 : Int32) then F7_goesBy_215 r1 v2 v3 v4 v5 z13.2 else (F7_pagesOf  v5 x14 z13.2).bind (fun z18 => sx_let z18.1 (fun x19 => (F7_givenOf  x14 v2 z18.2).bind (fun z20 => sx_let (x19 * z20.1) (fun x21 => (F7_starsOf r1 v5 x14 v2 z20.2).bind (fun z22 => sx_let z22.1 (fun x23 => sx_let ((3 : Int32) + ((3 : Int32) * v5)) (fun x24 => (if sx_ix x24 27 = true then (if x19 ≤ 0 then F7_goesBy_102 r1 v2 v3 v4 v5 x14 x19 x21 x23 x24 (0 : Int32) (gI z22.2 r1 x24.toNatClampNeg) z22.2 else F7_goesBy_102 r1 v2 v3 v4 v5 x14 x19 x21 x23 x24 (gI z22.2 3 1) (gI z22.2 r1 x24.toNatClampNeg) z22.2) else none))))))))))))
set_option maxHeartbeats 400000 in
theorem F7_goesBy_12b_ok (l : Launch) (r1 : Nat) (hr1 : iA27 r1) {Q : Option Value → SQ → Prop} (v2 : Int32) (v3 : Int32) (v4 : Int32) (v5 : Int32) (q : SQ) {res : (Int32 × Int32 × Int32 × SQ) ⊕ (Int32 × SQ)} (h : F7_goesBy_12b r1 v2 v3 v4 v5 q = some res) (hk9 : (∀ a41, res = .inl a41 → PF7_goesBy l Q 12 [(0, .ref 0), (1, .ref r1), (2, .int v2), (3, .int a41.1), (4, .int a41.2.1), (5, .int a41.2.2.1)] [] a41.2.2.2) ∧ (∀ b42, res = .inr b42 → Q (some (.int b42.1)) b42.2)) : PF7_goesBy l Q 12 [(0, .ref 0), (1, .ref r1), (2, .int v2), (3, .int v3), (4, .int v4), (5, .int v5)] [] q := by
  unfold F7_goesBy_12b at h
  refine sx_iload dX7_goesBy_12 rfl ?_
  refine sx_aload_n dX7_goesBy_14 rfl rfl ?_
  refine sx_getR dX7_goesBy_15 (hs := shM_0) (k9 := 9) (hf := rfl) cb_X7 ⟨by decide, rfl, gw_808⟩ ?_
  refine sx_bipush (v := (40 : Int32)) dX7_goesBy_18 (by decide) ?_
  refine sx_ialdC (j9 := 40) dX7_goesBy_20 shM_2 (fun _ _ => rfl) (by decide) (by decide) ?_
  refine sx_icmp_ge (tgt := 221) dX7_goesBy_21 (by decide) (fun c9 => ?_) (fun c9 => ?_)
  · replace h := sx_ip h c9
    refine sx_iconst (v := (0 : Int32)) dX7_goesBy_221 (by decide) ?_
    refine sx_istore (ls2 := [(5, .int (0 : Int32)), (0, .ref 0), (1, .ref r1), (2, .int v2), (3, .int v3), (4, .int v4)]) dX7_goesBy_222 (by decide) rfl ?_
    refine sx_iconst (v := (0 : Int32)) dX7_goesBy_224 (by decide) ?_
    refine sx_istore (ls2 := [(6, .int (0 : Int32)), (5, .int (0 : Int32)), (0, .ref 0), (1, .ref r1), (2, .int v2), (3, .int v3), (4, .int v4)]) dX7_goesBy_225 (by decide) rfl ?_
    obtain ⟨t9, h, hr9⟩ := sx_mp h
    have hk9 := hk9.2 _ hr9
    refine sx_locs [2, 3, 4, 5, 6, 1, 0] rfl ?_
    exact F7_goesBy_227_ok l r1 hr1 v2 v3 v4 (0 : Int32) (0 : Int32) q h hk9
  · replace h := sx_in h c9
    refine sx_aload_n dX7_goesBy_24 rfl rfl ?_
    refine sx_aload_n dX7_goesBy_25 rfl rfl ?_
    refine sx_iload dX7_goesBy_26 rfl ?_
    refine sx_iload_n dX7_goesBy_28 rfl rfl ?_
    obtain ⟨z13, hz13, h⟩ := sx_bd h
    refine sx_callV (o := 0) (As := [.ref r1, .int v5, .int v2]) (rest := []) KSM (F7_choiceOf_ck l r1 hr1 v5 v2 q hz13) mi_X7_choiceOf gw_974 rfl ⟨gw_976, gw_47⟩ shM_0 rfl rfl ⟨Nat.le_of_ble_eq_true rfl, Nat.le_of_ble_eq_true rfl⟩ (Nat.le_of_ble_eq_true rfl) dX7_goesBy_29 rfl ?_
    obtain ⟨x14, ex14, h⟩ := sx_lt h
    refine sx_nmI ex14 ?_
    refine sx_istore (ls2 := [(6, .int x14), (0, .ref 0), (1, .ref r1), (2, .int v2), (3, .int v3), (4, .int v4), (5, .int v5)]) dX7_goesBy_32 (by decide) rfl ?_
    refine sx_iload dX7_goesBy_34 rfl ?_
    refine sx_bipush (v := (-9 : Int32)) dX7_goesBy_36 (by decide) ?_
    refine sx_icmp_eq (tgt := 215) dX7_goesBy_38 (by decide) (fun c9 => ?_) (fun c9 => ?_)
    · replace h := sx_ip h c9
      refine sx_locs [1, 2, 3, 4, 5, 6] rfl ?_
      exact F7_goesBy_215_ok l r1 hr1 v2 v3 v4 v5 z13.2 h hk9
    · replace h := sx_in h c9
      refine sx_aload_n dX7_goesBy_41 rfl rfl ?_
      refine sx_iload dX7_goesBy_42 rfl ?_
      refine sx_iload dX7_goesBy_44 rfl ?_
      obtain ⟨z18, hz18, h⟩ := sx_bd h
      refine sx_callV (o := 0) (As := [.int v5, .int x14]) (rest := []) KSM (F7_pagesOf_ck l  v5 x14 z13.2 hz18) mi_X7_pagesOf gw_954 rfl ⟨gw_956, gw_43⟩ shM_0 rfl rfl ⟨Nat.le_of_ble_eq_true rfl, Nat.le_of_ble_eq_true rfl⟩ (Nat.le_of_ble_eq_true rfl) dX7_goesBy_46 rfl ?_
      obtain ⟨x19, ex19, h⟩ := sx_lt h
      refine sx_nmI ex19 ?_
      refine sx_istore (ls2 := [(7, .int x19), (6, .int x14), (0, .ref 0), (1, .ref r1), (2, .int v2), (3, .int v3), (4, .int v4), (5, .int v5)]) dX7_goesBy_49 (by decide) rfl ?_
      refine sx_iload dX7_goesBy_51 rfl ?_
      refine sx_aload_n dX7_goesBy_53 rfl rfl ?_
      refine sx_iload dX7_goesBy_54 rfl ?_
      refine sx_iload_n dX7_goesBy_56 rfl rfl ?_
      obtain ⟨z20, hz20, h⟩ := sx_bd h
      refine sx_callV (o := 0) (As := [.int x14, .int v2]) (rest := [.int x19]) KSM (F7_givenOf_ck l  x14 v2 z18.2 hz20) mi_X7_givenOf gw_946 rfl ⟨gw_948, gw_42⟩ shM_0 rfl rfl ⟨Nat.le_of_ble_eq_true rfl, Nat.le_of_ble_eq_true rfl⟩ (Nat.le_of_ble_eq_true rfl) dX7_goesBy_57 rfl ?_
      refine sx_imul dX7_goesBy_60 ?_
      obtain ⟨x21, ex21, h⟩ := sx_lt h
      refine sx_nmI ex21 ?_
      refine sx_istore (ls2 := [(8, .int x21), (7, .int x19), (6, .int x14), (0, .ref 0), (1, .ref r1), (2, .int v2), (3, .int v3), (4, .int v4), (5, .int v5)]) dX7_goesBy_61 (by decide) rfl ?_
      refine sx_aload_n dX7_goesBy_63 rfl rfl ?_
      refine sx_aload_n dX7_goesBy_64 rfl rfl ?_
      refine sx_iload dX7_goesBy_65 rfl ?_
      refine sx_iload dX7_goesBy_67 rfl ?_
      refine sx_iload_n dX7_goesBy_69 rfl rfl ?_
      obtain ⟨z22, hz22, h⟩ := sx_bd h
      refine sx_callV (o := 0) (As := [.ref r1, .int v5, .int x14, .int v2]) (rest := []) KSM (F7_starsOf_ck l r1 hr1 v5 x14 v2 z20.2 hz22) mi_X7_starsOf gw_962 rfl ⟨gw_964, gw_45⟩ shM_0 rfl rfl ⟨Nat.le_of_ble_eq_true rfl, Nat.le_of_ble_eq_true rfl⟩ (Nat.le_of_ble_eq_true rfl) dX7_goesBy_70 rfl ?_
      obtain ⟨x23, ex23, h⟩ := sx_lt h
      refine sx_nmI ex23 ?_
      refine sx_istore (ls2 := [(9, .int x23), (8, .int x21), (7, .int x19), (6, .int x14), (0, .ref 0), (1, .ref r1), (2, .int v2), (3, .int v3), (4, .int v4), (5, .int v5)]) dX7_goesBy_73 (by decide) rfl ?_
      refine sx_iconst (v := (3 : Int32)) dX7_goesBy_75 (by decide) ?_
      refine sx_iconst (v := (3 : Int32)) dX7_goesBy_76 (by decide) ?_
      refine sx_iload dX7_goesBy_77 rfl ?_
      refine sx_imul dX7_goesBy_79 ?_
      refine sx_iadd dX7_goesBy_80 ?_
      obtain ⟨x24, ex24, h⟩ := sx_lt h
      refine sx_nmI ex24 ?_
      refine sx_istore (ls2 := [(10, .int x24), (9, .int x23), (8, .int x21), (7, .int x19), (6, .int x14), (0, .ref 0), (1, .ref r1), (2, .int v2), (3, .int v3), (4, .int v4), (5, .int v5)]) dX7_goesBy_81 (by decide) rfl ?_
      refine sx_aload_n dX7_goesBy_83 rfl rfl ?_
      refine sx_iload dX7_goesBy_84 rfl ?_
      obtain ⟨g9, h⟩ := sx_gd h
      refine sx_iald dX7_goesBy_86 hr1 (fun _ _ => rfl) (sx_ix_in g9) ?_
      refine sx_iload dX7_goesBy_87 rfl ?_
      refine sx_if_le (tgt := 101) dX7_goesBy_89 (by decide) (fun c9 => ?_) (fun c9 => ?_)
      · replace h := sx_ip h c9
        refine sx_iconst (v := (0 : Int32)) dX7_goesBy_101 (by decide) ?_
        refine sx_locs [5, 6, 7, 8, 9, 10, 4, 3, 2, 1, 0] rfl ?_
        exact F7_goesBy_102_ok l r1 hr1 v2 v3 v4 v5 x14 x19 x21 x23 x24 (0 : Int32) (gI z22.2 r1 x24.toNatClampNeg) z22.2 h hk9
      · replace h := sx_in h c9
        refine sx_aload_n dX7_goesBy_92 rfl rfl ?_
        refine sx_getR dX7_goesBy_93 (hs := shM_0) (k9 := 10) (hf := rfl) cb_X7 ⟨by decide, rfl, gw_809⟩ ?_
        refine sx_iconst (v := (1 : Int32)) dX7_goesBy_96 (by decide) ?_
        refine sx_ialdC (j9 := 1) dX7_goesBy_97 shM_3 (fun _ _ => rfl) (by decide) (by decide) ?_
        refine sx_goto (tgt := 102) dX7_goesBy_98 (by decide) ?_
        refine sx_locs [5, 6, 7, 8, 9, 10, 4, 3, 2, 1, 0] rfl ?_
        exact F7_goesBy_102_ok l r1 hr1 v2 v3 v4 v5 x14 x19 x21 x23 x24 (gI z22.2 3 1) (gI z22.2 r1 x24.toNatClampNeg) z22.2 h hk9
def F7_goesBy_12 (r1 : Nat) (v2 : Int32) (v3 : Int32) (v4 : Int32) (v5 : Int32) (q : SQ) : Option (Int32 × SQ) := sx_loop (fun s43 => F7_goesBy_12b r1 v2 s43.1 s43.2.1 s43.2.2.1 s43.2.2.2) FU (v3, v4, v5, q)
set_option maxHeartbeats 400000 in
theorem F7_goesBy_12_ok (l : Launch) (r1 : Nat) (hr1 : iA27 r1) {Q : Option Value → SQ → Prop} (v2 : Int32) (v3 : Int32) (v4 : Int32) (v5 : Int32) (q : SQ) {t : Int32 × SQ} (h : F7_goesBy_12 r1 v2 v3 v4 v5 q = some t) (hk9 : Q (some (.int t.1)) t.2) : PF7_goesBy l Q 12 [(0, .ref 0), (1, .ref r1), (2, .int v2), (3, .int v3), (4, .int v4), (5, .int v5)] [] q := by
  unfold F7_goesBy_12 at h
  have st : ∀ (s : Int32 × Int32 × Int32 × SQ) (res : (Int32 × Int32 × Int32 × SQ) ⊕ (Int32 × SQ)), F7_goesBy_12b r1 v2 s.1 s.2.1 s.2.2.1 s.2.2.2 = some res → (∀ s2, res = .inl s2 → PF7_goesBy l Q 12 [(0, .ref 0), (1, .ref r1), (2, .int v2), (3, .int s2.1), (4, .int s2.2.1), (5, .int s2.2.2.1)] [] s2.2.2.2) → (∀ t2, res = .inr t2 → Q (some (.int t2.1)) t2.2) → PF7_goesBy l Q 12 [(0, .ref 0), (1, .ref r1), (2, .int v2), (3, .int s.1), (4, .int s.2.1), (5, .int s.2.2.1)] [] s.2.2.2 :=
    fun s res hb hi ho => F7_goesBy_12b_ok l r1 hr1 v2 s.1 s.2.1 s.2.2.1 s.2.2.2 hb ⟨hi, ho⟩
  have h9 : PF7_goesBy l Q 12 [(0, .ref 0), (1, .ref r1), (2, .int v2), (3, .int v3), (4, .int v4), (5, .int v5)] [] q := sx_lp (body := fun s => F7_goesBy_12b r1 v2 s.1 s.2.1 s.2.2.1 s.2.2.2) (P := fun s => PF7_goesBy l Q 12 [(0, .ref 0), (1, .ref r1), (2, .int v2), (3, .int s.1), (4, .int s.2.1), (5, .int s.2.2.1)] [] s.2.2.2) (T := fun t => Q (some (.int t.1)) t.2) st FU (v3, v4, v5, q) t h hk9
  exact h9
def F7_goesBy (r1 : Nat)  (q : SQ) : Option (Int32 × SQ) :=
  sx_let (gI q r1 0) (fun x1 => F7_goesBy_12 r1 x1 (0 : Int32) (0 : Int32) (0 : Int32) q)
set_option maxHeartbeats 400000 in
theorem F7_goesBy_ok (l : Launch) (r1 : Nat) (hr1 : iA27 r1) {Q : Option Value → SQ → Prop}  (q : SQ) {res : Int32 × SQ} (h : F7_goesBy r1  q = some res) (hk9 : Q (some (.int res.1)) res.2) : PF7_goesBy l Q 0 [(0, .ref 0), (1, .ref r1)] [] q := by
  unfold F7_goesBy at h
  refine sx_aload_n dX7_goesBy_0 rfl rfl ?_
  refine sx_iconst (v := (0 : Int32)) dX7_goesBy_1 (by decide) ?_
  refine sx_ialdC (j9 := 0) dX7_goesBy_2 hr1 (fun _ _ => rfl) (by decide) (by decide) ?_
  obtain ⟨x1, ex1, h⟩ := sx_lt h
  refine sx_nmI ex1 ?_
  refine sx_istore_n (ls2 := [(2, .int x1), (0, .ref 0), (1, .ref r1)]) dX7_goesBy_3 rfl (by decide) rfl ?_
  refine sx_iconst (v := (0 : Int32)) dX7_goesBy_4 (by decide) ?_
  refine sx_istore_n (ls2 := [(3, .int (0 : Int32)), (2, .int x1), (0, .ref 0), (1, .ref r1)]) dX7_goesBy_5 rfl (by decide) rfl ?_
  refine sx_iconst (v := (0 : Int32)) dX7_goesBy_6 (by decide) ?_
  refine sx_istore (ls2 := [(4, .int (0 : Int32)), (3, .int (0 : Int32)), (2, .int x1), (0, .ref 0), (1, .ref r1)]) dX7_goesBy_7 (by decide) rfl ?_
  refine sx_iconst (v := (0 : Int32)) dX7_goesBy_9 (by decide) ?_
  refine sx_istore (ls2 := [(5, .int (0 : Int32)), (4, .int (0 : Int32)), (3, .int (0 : Int32)), (2, .int x1), (0, .ref 0), (1, .ref r1)]) dX7_goesBy_10 (by decide) rfl ?_
  refine sx_locs [4, 5, 3, 2, 1, 0] rfl ?_
  exact F7_goesBy_12_ok l r1 hr1 x1 (0 : Int32) (0 : Int32) (0 : Int32) q h hk9
theorem F7_goesBy_ck (l : Launch) (r1 : Nat) (hr1 : iA27 r1)  (q : SQ) {r : Int32 × SQ} (h : F7_goesBy r1  q = some r) : CK shM vwCl KM tfM l yX7_goesBy cX7_goesBy 12 ((some .int)) 4 99 [.ref 0, .ref r1] q (some (.int r.1)) r.2 :=
  CK.of mi_X7_goesBy (Nat.le_of_ble_eq_true rfl) (F7_goesBy_ok l r1 hr1  q h ⟨rfl, rfl⟩)
theorem mi_X7_go : sx_MI yX7_go cX7_go 3 ((some .int)) 1 := ⟨by decide, ⟨by decide, by decide, by decide +kernel⟩, gw_981, gw_68⟩
abbrev PF7_go (l : Launch) (Q : Option Value → SQ → Prop) : Nat → List (Nat × Value) → List Value → SQ → Prop := XX shM vwCl KM tfM l RX7 cX7_go 3 ((some .int)) { frames := 5, cells := 0, slots := 0, locals := 130 } Q
def F7_go_64  (v2 : Int32) (q : SQ) : Option (Int32 × SQ) :=
  some (v2, q)
set_option maxHeartbeats 400000 in
theorem F7_go_64_ok (l : Launch)  {Q : Option Value → SQ → Prop} (v2 : Int32) (q : SQ) {res : Int32 × SQ} (h : F7_go_64  v2 q = some res) (hk9 : Q (some (.int res.1)) res.2) : PF7_go l Q 64 [(2, .int v2)] [] q := by
  unfold F7_go_64 at h
  refine sx_iload_n dX7_go_64 rfl rfl ?_
  obtain rfl := Option.some.inj h
  exact sx_iret dX7_go_65 rfl hk9
def F7_go_33b  (v1 : Int32) (v2 : Int32) (q : SQ) : Option ((Int32 × SQ) ⊕ (Int32 × SQ)) :=
  (if v1 ≤ v2 then (F7_go_64  v2 q).map .inr else (if (99 : Int32) ≤ gI q 4 0 then (F7_go_64  v2 q).map .inr else (F7_goesBy 4  q).bind (fun z3 => sx_let (v2 + (1 : Int32)) (fun x4 => some (.inl (x4, z3.2))))))
set_option maxHeartbeats 400000 in
theorem F7_go_33b_ok (l : Launch)  {Q : Option Value → SQ → Prop} (v1 : Int32) (v2 : Int32) (q : SQ) {res : (Int32 × SQ) ⊕ (Int32 × SQ)} (h : F7_go_33b  v1 v2 q = some res) (hk9 : (∀ a5, res = .inl a5 → PF7_go l Q 33 [(0, .ref 0), (1, .int v1), (2, .int a5.1)] [] a5.2) ∧ (∀ b6, res = .inr b6 → Q (some (.int b6.1)) b6.2)) : PF7_go l Q 33 [(0, .ref 0), (1, .int v1), (2, .int v2)] [] q := by
  unfold F7_go_33b at h
  refine sx_iload_n dX7_go_33 rfl rfl ?_
  refine sx_iload_n dX7_go_34 rfl rfl ?_
  refine sx_icmp_ge (tgt := 64) dX7_go_35 (by decide) (fun c9 => ?_) (fun c9 => ?_)
  · replace h := sx_ip h c9
    obtain ⟨t9, h, hr9⟩ := sx_mp h
    have hk9 := hk9.2 _ hr9
    refine sx_locs [2] rfl ?_
    exact F7_go_64_ok l  v2 q h hk9
  · replace h := sx_in h c9
    refine sx_aload_n dX7_go_38 rfl rfl ?_
    refine sx_getR dX7_go_39 (hs := shM_0) (k9 := 11) (hf := rfl) cb_X7 ⟨by decide, rfl, gw_810⟩ ?_
    refine sx_iconst (v := (0 : Int32)) dX7_go_42 (by decide) ?_
    refine sx_ialdC (j9 := 0) dX7_go_43 shM_4 (fun _ _ => rfl) (by decide) (by decide) ?_
    refine sx_bipush (v := (99 : Int32)) dX7_go_44 (by decide) ?_
    refine sx_icmp_ge (tgt := 64) dX7_go_46 (by decide) (fun c9 => ?_) (fun c9 => ?_)
    · replace h := sx_ip h c9
      obtain ⟨t9, h, hr9⟩ := sx_mp h
      have hk9 := hk9.2 _ hr9
      refine sx_locs [2] rfl ?_
      exact F7_go_64_ok l  v2 q h hk9
    · replace h := sx_in h c9
      refine sx_aload_n dX7_go_49 rfl rfl ?_
      refine sx_aload_n dX7_go_50 rfl rfl ?_
      refine sx_getR dX7_go_51 (hs := shM_0) (k9 := 11) (hf := rfl) cb_X7 ⟨by decide, rfl, gw_810⟩ ?_
      obtain ⟨z3, hz3, h⟩ := sx_bd h
      refine sx_callV (o := 0) (As := [.ref 4]) (rest := []) KSM (F7_goesBy_ck l 4 shM_4  q hz3) mi_X7_goesBy gw_982 rfl ⟨gw_984, gw_48⟩ shM_0 rfl rfl ⟨Nat.le_of_ble_eq_true rfl, Nat.le_of_ble_eq_true rfl⟩ (Nat.le_of_ble_eq_true rfl) dX7_go_54 rfl ?_
      refine sx_pop dX7_go_57 rfl ?_
      obtain ⟨x4, ex4, h⟩ := sx_lt h
      refine sx_iinc (k9 := 2) (v := x4) (ls2 := [(2, .int x4), (0, .ref 0), (1, .int v1)]) dX7_go_58 rfl (by rw [ex4, sx_ofI1]) (by decide) rfl ?_
      refine sx_goto (tgt := 33) dX7_go_61 (by decide) ?_
      refine sx_locs [1, 2, 0] rfl ?_
      exact hk9.1 (x4, z3.2) (Option.some.inj h).symm
def F7_go_33  (v1 : Int32) (v2 : Int32) (q : SQ) : Option (Int32 × SQ) := sx_loop (fun s7 => F7_go_33b  v1 s7.1 s7.2) FU (v2, q)
set_option maxHeartbeats 400000 in
theorem F7_go_33_ok (l : Launch)  {Q : Option Value → SQ → Prop} (v1 : Int32) (v2 : Int32) (q : SQ) {t : Int32 × SQ} (h : F7_go_33  v1 v2 q = some t) (hk9 : Q (some (.int t.1)) t.2) : PF7_go l Q 33 [(0, .ref 0), (1, .int v1), (2, .int v2)] [] q := by
  unfold F7_go_33 at h
  have st : ∀ (s : Int32 × SQ) (res : (Int32 × SQ) ⊕ (Int32 × SQ)), F7_go_33b  v1 s.1 s.2 = some res → (∀ s2, res = .inl s2 → PF7_go l Q 33 [(0, .ref 0), (1, .int v1), (2, .int s2.1)] [] s2.2) → (∀ t2, res = .inr t2 → Q (some (.int t2.1)) t2.2) → PF7_go l Q 33 [(0, .ref 0), (1, .int v1), (2, .int s.1)] [] s.2 :=
    fun s res hb hi ho => F7_go_33b_ok l  v1 s.1 s.2 hb ⟨hi, ho⟩
  have h9 : PF7_go l Q 33 [(0, .ref 0), (1, .int v1), (2, .int v2)] [] q := sx_lp (body := fun s => F7_go_33b  v1 s.1 s.2) (P := fun s => PF7_go l Q 33 [(0, .ref 0), (1, .int v1), (2, .int s.1)] [] s.2) (T := fun t => Q (some (.int t.1)) t.2) st FU (v2, q) t h hk9
  exact h9
def F7_go  (v1 : Int32) (q : SQ) : Option (Int32 × SQ) :=
  sx_let (sI q 0 0 (0 : Int32)) (fun q1 => (F7_in  v1 (1 : Int32) (99 : Int32) q1).bind (fun z2 => (if z2.1 = 0 then some ((-1 : Int32), z2.2) else (if gI z2.2 4 0 = (99 : Int32) then some ((-2 : Int32), z2.2) else F7_go_33  v1 (0 : Int32) z2.2))))
set_option maxHeartbeats 400000 in
theorem F7_go_ok (l : Launch)  {Q : Option Value → SQ → Prop} (v1 : Int32) (q : SQ) {res : Int32 × SQ} (h : F7_go  v1 q = some res) (hk9 : Q (some (.int res.1)) res.2) : PF7_go l Q 0 [(0, .ref 0), (1, .int v1)] [] q := by
  unfold F7_go at h
  refine sx_aload_n dX7_go_0 rfl rfl ?_
  refine sx_iconst (v := (0 : Int32)) dX7_go_1 (by decide) ?_
  obtain ⟨q1, eq1, h⟩ := sx_lt h
  refine sx_putI dX7_go_2 (hs := shM_0) (k9 := 0) (hf := rfl) cb_X7 ⟨by decide, rfl, gw_799⟩ rfl (by decide) ?_
  refine sx_nmQ eq1 ?_
  refine sx_iload_n dX7_go_5 rfl rfl ?_
  refine sx_iconst (v := (1 : Int32)) dX7_go_6 (by decide) ?_
  refine sx_bipush (v := (99 : Int32)) dX7_go_7 (by decide) ?_
  obtain ⟨z2, hz2, h⟩ := sx_bd h
  refine sx_callS (As := [.int v1, .int (1 : Int32), .int (99 : Int32)]) (rest := []) KSM (F7_in_ck l  v1 (1 : Int32) (99 : Int32) q1 hz2) mi_X7_in gw_865 rfl gw_866 ⟨Nat.le_of_ble_eq_true rfl, Nat.le_of_ble_eq_true rfl⟩ (Nat.le_of_ble_eq_true rfl) dX7_go_9 rfl ?_
  refine sx_if_ne (tgt := 17) dX7_go_12 (by decide) (fun c9 => ?_) (fun c9 => ?_)
  · replace h := sx_in h c9
    refine sx_aload_n dX7_go_17 rfl rfl ?_
    refine sx_getR dX7_go_18 (hs := shM_0) (k9 := 11) (hf := rfl) cb_X7 ⟨by decide, rfl, gw_810⟩ ?_
    refine sx_iconst (v := (0 : Int32)) dX7_go_21 (by decide) ?_
    refine sx_ialdC (j9 := 0) dX7_go_22 shM_4 (fun _ _ => rfl) (by decide) (by decide) ?_
    refine sx_bipush (v := (99 : Int32)) dX7_go_23 (by decide) ?_
    refine sx_icmp_ne (tgt := 31) dX7_go_25 (by decide) (fun c9 => ?_) (fun c9 => ?_)
    · replace h := sx_in h c9
      refine sx_iconst (v := (0 : Int32)) dX7_go_31 (by decide) ?_
      refine sx_istore_n (ls2 := [(2, .int (0 : Int32)), (0, .ref 0), (1, .int v1)]) dX7_go_32 rfl (by decide) rfl ?_
      refine sx_locs [1, 2, 0] rfl ?_
      exact F7_go_33_ok l  v1 (0 : Int32) z2.2 h hk9
    · replace h := sx_ip h c9
      refine sx_bipush (v := (-2 : Int32)) dX7_go_28 (by decide) ?_
      obtain rfl := Option.some.inj h
      exact sx_iret dX7_go_30 rfl hk9
  · replace h := sx_ip h c9
    refine sx_iconst (v := (-1 : Int32)) dX7_go_15 (by decide) ?_
    obtain rfl := Option.some.inj h
    exact sx_iret dX7_go_16 rfl hk9
theorem F7_go_ck (l : Launch)  (v1 : Int32) (q : SQ) {r : Int32 × SQ} (h : F7_go  v1 q = some r) : CK shM vwCl KM tfM l yX7_go cX7_go 3 ((some .int)) 5 130 [.ref 0, .int v1] q (some (.int r.1)) r.2 :=
  CK.of mi_X7_go (Nat.le_of_ble_eq_true rfl) (F7_go_ok l  v1 q h ⟨rfl, rfl⟩)
theorem mi_X7_allOf : sx_MI yX7_allOf cX7_allOf 5 ((some .int)) 2 := ⟨by decide, ⟨by decide, by decide, by decide +kernel⟩, gw_996, gw_68⟩
abbrev PF7_allOf (l : Launch) (Q : Option Value → SQ → Prop) : Nat → List (Nat × Value) → List Value → SQ → Prop := XX shM vwCl KM tfM l RX7 cX7_allOf 5 ((some .int)) { frames := 0, cells := 0, slots := 0, locals := 0 } Q
def F7_allOf_5b (r1 : Nat) (v2 : Int32) (v3 : Int32) (v4 : Int32) (q : SQ) : Option ((Int32 × Int32 × SQ) ⊕ (Int32 × SQ)) :=
  (if gI q 2 40 ≤ v4 then some (.inr (v3, q)) else (if sx_ix (((3 : Int32) + ((3 : Int32) * v4)) + v2) 27 = true then sx_let (v3 + (gI q r1 (((3 : Int32) + ((3 : Int32) * v4)) + v2).toNatClampNeg)) (fun x1 => sx_let (v4 + (1 : Int32)) (fun x2 => some (.inl (x1, x2, q)))) else none))
set_option maxHeartbeats 400000 in
theorem F7_allOf_5b_ok (l : Launch) (r1 : Nat) (hr1 : iA27 r1) {Q : Option Value → SQ → Prop} (v2 : Int32) (v3 : Int32) (v4 : Int32) (q : SQ) {res : (Int32 × Int32 × SQ) ⊕ (Int32 × SQ)} (h : F7_allOf_5b r1 v2 v3 v4 q = some res) (hk9 : (∀ a3, res = .inl a3 → PF7_allOf l Q 5 [(0, .ref 0), (1, .ref r1), (2, .int v2), (3, .int a3.1), (4, .int a3.2.1)] [] a3.2.2) ∧ (∀ b4, res = .inr b4 → Q (some (.int b4.1)) b4.2)) : PF7_allOf l Q 5 [(0, .ref 0), (1, .ref r1), (2, .int v2), (3, .int v3), (4, .int v4)] [] q := by
  unfold F7_allOf_5b at h
  refine sx_iload dX7_allOf_5 rfl ?_
  refine sx_aload_n dX7_allOf_7 rfl rfl ?_
  refine sx_getR dX7_allOf_8 (hs := shM_0) (k9 := 9) (hf := rfl) cb_X7 ⟨by decide, rfl, gw_808⟩ ?_
  refine sx_bipush (v := (40 : Int32)) dX7_allOf_11 (by decide) ?_
  refine sx_ialdC (j9 := 40) dX7_allOf_13 shM_2 (fun _ _ => rfl) (by decide) (by decide) ?_
  refine sx_icmp_ge (tgt := 36) dX7_allOf_14 (by decide) (fun c9 => ?_) (fun c9 => ?_)
  · replace h := sx_ip h c9
    refine sx_iload_n dX7_allOf_36 rfl rfl ?_
    have hk9 := hk9.2 _ (Option.some.inj h).symm
    exact sx_iret dX7_allOf_37 rfl hk9
  · replace h := sx_in h c9
    refine sx_iload_n dX7_allOf_17 rfl rfl ?_
    refine sx_aload_n dX7_allOf_18 rfl rfl ?_
    refine sx_iconst (v := (3 : Int32)) dX7_allOf_19 (by decide) ?_
    refine sx_iconst (v := (3 : Int32)) dX7_allOf_20 (by decide) ?_
    refine sx_iload dX7_allOf_21 rfl ?_
    refine sx_imul dX7_allOf_23 ?_
    refine sx_iadd dX7_allOf_24 ?_
    refine sx_iload_n dX7_allOf_25 rfl rfl ?_
    refine sx_iadd dX7_allOf_26 ?_
    obtain ⟨g9, h⟩ := sx_gd h
    refine sx_iald dX7_allOf_27 hr1 (fun _ _ => rfl) (sx_ix_in g9) ?_
    refine sx_iadd dX7_allOf_28 ?_
    obtain ⟨x1, ex1, h⟩ := sx_lt h
    refine sx_nmI ex1 ?_
    refine sx_istore_n (ls2 := [(3, .int x1), (0, .ref 0), (1, .ref r1), (2, .int v2), (4, .int v4)]) dX7_allOf_29 rfl (by decide) rfl ?_
    obtain ⟨x2, ex2, h⟩ := sx_lt h
    refine sx_iinc (k9 := 4) (v := x2) (ls2 := [(4, .int x2), (3, .int x1), (0, .ref 0), (1, .ref r1), (2, .int v2)]) dX7_allOf_30 rfl (by rw [ex2, sx_ofI1]) (by decide) rfl ?_
    refine sx_goto (tgt := 5) dX7_allOf_33 (by decide) ?_
    refine sx_locs [2, 3, 4, 1, 0] rfl ?_
    exact hk9.1 (x1, x2, q) (Option.some.inj h).symm
def F7_allOf_5 (r1 : Nat) (v2 : Int32) (v3 : Int32) (v4 : Int32) (q : SQ) : Option (Int32 × SQ) := sx_loop (fun s5 => F7_allOf_5b r1 v2 s5.1 s5.2.1 s5.2.2) FU (v3, v4, q)
set_option maxHeartbeats 400000 in
theorem F7_allOf_5_ok (l : Launch) (r1 : Nat) (hr1 : iA27 r1) {Q : Option Value → SQ → Prop} (v2 : Int32) (v3 : Int32) (v4 : Int32) (q : SQ) {t : Int32 × SQ} (h : F7_allOf_5 r1 v2 v3 v4 q = some t) (hk9 : Q (some (.int t.1)) t.2) : PF7_allOf l Q 5 [(0, .ref 0), (1, .ref r1), (2, .int v2), (3, .int v3), (4, .int v4)] [] q := by
  unfold F7_allOf_5 at h
  have st : ∀ (s : Int32 × Int32 × SQ) (res : (Int32 × Int32 × SQ) ⊕ (Int32 × SQ)), F7_allOf_5b r1 v2 s.1 s.2.1 s.2.2 = some res → (∀ s2, res = .inl s2 → PF7_allOf l Q 5 [(0, .ref 0), (1, .ref r1), (2, .int v2), (3, .int s2.1), (4, .int s2.2.1)] [] s2.2.2) → (∀ t2, res = .inr t2 → Q (some (.int t2.1)) t2.2) → PF7_allOf l Q 5 [(0, .ref 0), (1, .ref r1), (2, .int v2), (3, .int s.1), (4, .int s.2.1)] [] s.2.2 :=
    fun s res hb hi ho => F7_allOf_5b_ok l r1 hr1 v2 s.1 s.2.1 s.2.2 hb ⟨hi, ho⟩
  have h9 : PF7_allOf l Q 5 [(0, .ref 0), (1, .ref r1), (2, .int v2), (3, .int v3), (4, .int v4)] [] q := sx_lp (body := fun s => F7_allOf_5b r1 v2 s.1 s.2.1 s.2.2) (P := fun s => PF7_allOf l Q 5 [(0, .ref 0), (1, .ref r1), (2, .int v2), (3, .int s.1), (4, .int s.2.1)] [] s.2.2) (T := fun t => Q (some (.int t.1)) t.2) st FU (v3, v4, q) t h hk9
  exact h9
def F7_allOf (r1 : Nat) (v2 : Int32) (q : SQ) : Option (Int32 × SQ) :=
  F7_allOf_5 r1 v2 (0 : Int32) (0 : Int32) q
set_option maxHeartbeats 400000 in
theorem F7_allOf_ok (l : Launch) (r1 : Nat) (hr1 : iA27 r1) {Q : Option Value → SQ → Prop} (v2 : Int32) (q : SQ) {res : Int32 × SQ} (h : F7_allOf r1 v2 q = some res) (hk9 : Q (some (.int res.1)) res.2) : PF7_allOf l Q 0 [(0, .ref 0), (1, .ref r1), (2, .int v2)] [] q := by
  unfold F7_allOf at h
  refine sx_iconst (v := (0 : Int32)) dX7_allOf_0 (by decide) ?_
  refine sx_istore_n (ls2 := [(3, .int (0 : Int32)), (0, .ref 0), (1, .ref r1), (2, .int v2)]) dX7_allOf_1 rfl (by decide) rfl ?_
  refine sx_iconst (v := (0 : Int32)) dX7_allOf_2 (by decide) ?_
  refine sx_istore (ls2 := [(4, .int (0 : Int32)), (3, .int (0 : Int32)), (0, .ref 0), (1, .ref r1), (2, .int v2)]) dX7_allOf_3 (by decide) rfl ?_
  refine sx_locs [2, 3, 4, 1, 0] rfl ?_
  exact F7_allOf_5_ok l r1 hr1 v2 (0 : Int32) (0 : Int32) q h hk9
theorem F7_allOf_ck (l : Launch) (r1 : Nat) (hr1 : iA27 r1) (v2 : Int32) (q : SQ) {r : Int32 × SQ} (h : F7_allOf r1 v2 q = some r) : CK shM vwCl KM tfM l yX7_allOf cX7_allOf 5 ((some .int)) 0 0 [.ref 0, .ref r1, .int v2] q (some (.int r.1)) r.2 :=
  CK.of mi_X7_allOf (Nat.le_of_ble_eq_true rfl) (F7_allOf_ok l r1 hr1 v2 q h ⟨rfl, rfl⟩)
theorem mi_X7_now : sx_MI yX7_now cX7_now 2 ((some .int)) 1 := ⟨by decide, ⟨by decide, by decide, by decide +kernel⟩, gw_992, gw_68⟩
abbrev PF7_now (l : Launch) (Q : Option Value → SQ → Prop) : Nat → List (Nat × Value) → List Value → SQ → Prop := XX shM vwCl KM tfM l RX7 cX7_now 2 ((some .int)) { frames := 1, cells := 0, slots := 0, locals := 24 } Q
def F7_now  (v1 : Int32) (q : SQ) : Option (Int32 × SQ) :=
  sx_let (sI q 0 0 (0 : Int32)) (fun q1 => (F7_in  v1 (0 : Int32) (4 : Int32) q1).bind (fun z2 => (if z2.1 = 0 then some ((-1 : Int32), z2.2) else (if (2 : Int32) ≤ v1 then (F7_allOf 4 (v1 - (2 : Int32)) z2.2).bind (fun z3 => some (z3.1, z3.2)) else (if sx_ix v1 27 = true then some (gI z2.2 4 v1.toNatClampNeg, z2.2) else none)))))
set_option maxHeartbeats 400000 in
theorem F7_now_ok (l : Launch)  {Q : Option Value → SQ → Prop} (v1 : Int32) (q : SQ) {res : Int32 × SQ} (h : F7_now  v1 q = some res) (hk9 : Q (some (.int res.1)) res.2) : PF7_now l Q 0 [(0, .ref 0), (1, .int v1)] [] q := by
  unfold F7_now at h
  refine sx_aload_n dX7_now_0 rfl rfl ?_
  refine sx_iconst (v := (0 : Int32)) dX7_now_1 (by decide) ?_
  obtain ⟨q1, eq1, h⟩ := sx_lt h
  refine sx_putI dX7_now_2 (hs := shM_0) (k9 := 0) (hf := rfl) cb_X7 ⟨by decide, rfl, gw_799⟩ rfl (by decide) ?_
  refine sx_nmQ eq1 ?_
  refine sx_iload_n dX7_now_5 rfl rfl ?_
  refine sx_iconst (v := (0 : Int32)) dX7_now_6 (by decide) ?_
  refine sx_iconst (v := (4 : Int32)) dX7_now_7 (by decide) ?_
  obtain ⟨z2, hz2, h⟩ := sx_bd h
  refine sx_callS (As := [.int v1, .int (0 : Int32), .int (4 : Int32)]) (rest := []) KSM (F7_in_ck l  v1 (0 : Int32) (4 : Int32) q1 hz2) mi_X7_in gw_865 rfl gw_866 ⟨Nat.le_of_ble_eq_true rfl, Nat.le_of_ble_eq_true rfl⟩ (Nat.le_of_ble_eq_true rfl) dX7_now_8 rfl ?_
  refine sx_if_ne (tgt := 18) dX7_now_11 (by decide) (fun c9 => ?_) (fun c9 => ?_)
  · replace h := sx_in h c9
    refine sx_iload_n dX7_now_18 rfl rfl ?_
    refine sx_iconst (v := (2 : Int32)) dX7_now_19 (by decide) ?_
    refine sx_icmp_ge (tgt := 32) dX7_now_20 (by decide) (fun c9 => ?_) (fun c9 => ?_)
    · replace h := sx_ip h c9
      refine sx_aload_n dX7_now_32 rfl rfl ?_
      refine sx_aload_n dX7_now_33 rfl rfl ?_
      refine sx_getR dX7_now_34 (hs := shM_0) (k9 := 11) (hf := rfl) cb_X7 ⟨by decide, rfl, gw_810⟩ ?_
      refine sx_iload_n dX7_now_37 rfl rfl ?_
      refine sx_iconst (v := (2 : Int32)) dX7_now_38 (by decide) ?_
      refine sx_isub dX7_now_39 ?_
      obtain ⟨z3, hz3, h⟩ := sx_bd h
      refine sx_callV (o := 0) (As := [.ref 4, .int (v1 - (2 : Int32))]) (rest := []) KSM (F7_allOf_ck l 4 shM_4 (v1 - (2 : Int32)) z2.2 hz3) mi_X7_allOf gw_993 rfl ⟨gw_995, gw_49⟩ shM_0 rfl rfl ⟨Nat.le_of_ble_eq_true rfl, Nat.le_of_ble_eq_true rfl⟩ (Nat.le_of_ble_eq_true rfl) dX7_now_40 rfl ?_
      obtain rfl := Option.some.inj h
      exact sx_iret dX7_now_43 rfl hk9
    · replace h := sx_in h c9
      refine sx_aload_n dX7_now_23 rfl rfl ?_
      refine sx_getR dX7_now_24 (hs := shM_0) (k9 := 11) (hf := rfl) cb_X7 ⟨by decide, rfl, gw_810⟩ ?_
      refine sx_iload_n dX7_now_27 rfl rfl ?_
      obtain ⟨g9, h⟩ := sx_gd h
      refine sx_iald dX7_now_28 shM_4 (fun _ _ => rfl) (sx_ix_in g9) ?_
      refine sx_goto (tgt := 43) dX7_now_29 (by decide) ?_
      obtain rfl := Option.some.inj h
      exact sx_iret dX7_now_43 rfl hk9
  · replace h := sx_ip h c9
    refine sx_iconst (v := (-1 : Int32)) dX7_now_14 (by decide) ?_
    refine sx_goto (tgt := 43) dX7_now_15 (by decide) ?_
    obtain rfl := Option.some.inj h
    exact sx_iret dX7_now_43 rfl hk9
theorem F7_now_ck (l : Launch)  (v1 : Int32) (q : SQ) {r : Int32 × SQ} (h : F7_now  v1 q = some r) : CK shM vwCl KM tfM l yX7_now cX7_now 2 ((some .int)) 1 24 [.ref 0, .int v1] q (some (.int r.1)) r.2 :=
  CK.of mi_X7_now (Nat.le_of_ble_eq_true rfl) (F7_now_ok l  v1 q h ⟨rfl, rfl⟩)
theorem mi_X7_anew : sx_MI yX7_anew cX7_anew 2 ((some .int)) 0 := ⟨by decide, ⟨by decide, by decide, by decide +kernel⟩, gw_1000, gw_68⟩
abbrev PF7_anew (l : Launch) (Q : Option Value → SQ → Prop) : Nat → List (Nat × Value) → List Value → SQ → Prop := XX shM vwCl KM tfM l RX7 cX7_anew 2 ((some .int)) { frames := 1, cells := 0, slots := 0, locals := 22 } Q
def F7_anew   (q : SQ) : Option (Int32 × SQ) :=
  sx_let (sI q 0 0 (0 : Int32)) (fun q1 => sx_let (gI q1 4 0) (fun x2 => (F7_begins 4  q1).bind (fun z3 => some (x2, z3.2))))
set_option maxHeartbeats 400000 in
theorem F7_anew_ok (l : Launch)  {Q : Option Value → SQ → Prop}  (q : SQ) {res : Int32 × SQ} (h : F7_anew   q = some res) (hk9 : Q (some (.int res.1)) res.2) : PF7_anew l Q 0 [(0, .ref 0)] [] q := by
  unfold F7_anew at h
  refine sx_aload_n dX7_anew_0 rfl rfl ?_
  refine sx_iconst (v := (0 : Int32)) dX7_anew_1 (by decide) ?_
  obtain ⟨q1, eq1, h⟩ := sx_lt h
  refine sx_putI dX7_anew_2 (hs := shM_0) (k9 := 0) (hf := rfl) cb_X7 ⟨by decide, rfl, gw_799⟩ rfl (by decide) ?_
  refine sx_nmQ eq1 ?_
  refine sx_aload_n dX7_anew_5 rfl rfl ?_
  refine sx_getR dX7_anew_6 (hs := shM_0) (k9 := 11) (hf := rfl) cb_X7 ⟨by decide, rfl, gw_810⟩ ?_
  refine sx_iconst (v := (0 : Int32)) dX7_anew_9 (by decide) ?_
  refine sx_ialdC (j9 := 0) dX7_anew_10 shM_4 (fun _ _ => rfl) (by decide) (by decide) ?_
  obtain ⟨x2, ex2, h⟩ := sx_lt h
  refine sx_nmI ex2 ?_
  refine sx_istore_n (ls2 := [(1, .int x2), (0, .ref 0)]) dX7_anew_11 rfl (by decide) rfl ?_
  refine sx_aload_n dX7_anew_12 rfl rfl ?_
  refine sx_aload_n dX7_anew_13 rfl rfl ?_
  refine sx_getR dX7_anew_14 (hs := shM_0) (k9 := 11) (hf := rfl) cb_X7 ⟨by decide, rfl, gw_810⟩ ?_
  obtain ⟨z3, hz3, h⟩ := sx_bd h
  refine sx_callV (o := 0) (As := [.ref 4]) (rest := []) KSM (F7_begins_ck l 4 shM_4  q1 hz3) mi_X7_begins gw_795 rfl ⟨gw_797, gw_32⟩ shM_0 rfl rfl ⟨Nat.le_of_ble_eq_true rfl, Nat.le_of_ble_eq_true rfl⟩ (Nat.le_of_ble_eq_true rfl) dX7_anew_17 rfl ?_
  refine sx_iload_n dX7_anew_20 rfl rfl ?_
  obtain rfl := Option.some.inj h
  exact sx_iret dX7_anew_21 rfl hk9
theorem F7_anew_ck (l : Launch)   (q : SQ) {r : Int32 × SQ} (h : F7_anew   q = some r) : CK shM vwCl KM tfM l yX7_anew cX7_anew 2 ((some .int)) 1 22 [.ref 0] q (some (.int r.1)) r.2 :=
  CK.of mi_X7_anew (Nat.le_of_ble_eq_true rfl) (F7_anew_ok l   q h ⟨rfl, rfl⟩)
theorem mi_X7_pagesBy : sx_MI yX7_pagesBy cX7_pagesBy 6 ((some .int)) 2 := ⟨by decide, ⟨by decide, by decide, by decide +kernel⟩, gw_1008, gw_68⟩
abbrev PF7_pagesBy (l : Launch) (Q : Option Value → SQ → Prop) : Nat → List (Nat × Value) → List Value → SQ → Prop := XX shM vwCl KM tfM l RX7 cX7_pagesBy 6 ((some .int)) { frames := 5, cells := 0, slots := 0, locals := 130 } Q
def F7_pagesBy_67  (v3 : Int32) (q : SQ) : Option (Int32 × SQ) :=
  some (v3, q)
set_option maxHeartbeats 400000 in
theorem F7_pagesBy_67_ok (l : Launch)  {Q : Option Value → SQ → Prop} (v3 : Int32) (q : SQ) {res : Int32 × SQ} (h : F7_pagesBy_67  v3 q = some res) (hk9 : Q (some (.int res.1)) res.2) : PF7_pagesBy l Q 67 [(3, .int v3)] [] q := by
  unfold F7_pagesBy_67 at h
  refine sx_iload_n dX7_pagesBy_67 rfl rfl ?_
  obtain rfl := Option.some.inj h
  exact sx_iret dX7_pagesBy_68 rfl hk9
def F7_pagesBy_62  (v1 : Int32) (v2 : Int32) (s0 : Int32) (s1 : Int32) (q : SQ) : Option ((Int32 × SQ) ⊕ (Int32 × SQ)) :=
  sx_let (s1 + s0) (fun x5 => some (.inl (x5, q)))
set_option maxHeartbeats 400000 in
theorem F7_pagesBy_62_ok (l : Launch)  {Q : Option Value → SQ → Prop} (v1 : Int32) (v2 : Int32) (s0 : Int32) (s1 : Int32) (q : SQ) {res : (Int32 × SQ) ⊕ (Int32 × SQ)} (h : F7_pagesBy_62  v1 v2 s0 s1 q = some res) (hk9 : (∀ a6, res = .inl a6 → PF7_pagesBy l Q 10 [(0, .ref 0), (1, .int v1), (2, .int v2), (3, .int a6.1)] [] a6.2) ∧ (∀ b7, res = .inr b7 → Q (some (.int b7.1)) b7.2)) : PF7_pagesBy l Q 62 [(0, .ref 0), (1, .int v1), (2, .int v2)] [.int s0, .int s1] q := by
  unfold F7_pagesBy_62 at h
  refine sx_iadd dX7_pagesBy_62 ?_
  obtain ⟨x5, ex5, h⟩ := sx_lt h
  refine sx_nmI ex5 ?_
  refine sx_istore_n (ls2 := [(3, .int x5), (0, .ref 0), (1, .int v1), (2, .int v2)]) dX7_pagesBy_63 rfl (by decide) rfl ?_
  refine sx_goto (tgt := 10) dX7_pagesBy_64 (by decide) ?_
  refine sx_locs [1, 2, 3, 0] rfl ?_
  exact hk9.1 (x5, q) (Option.some.inj h).symm
def F7_pagesBy_10b  (v1 : Int32) (v2 : Int32) (v3 : Int32) (q : SQ) : Option ((Int32 × SQ) ⊕ (Int32 × SQ)) :=
  (if v2 ≤ gI q 7 0 then (F7_pagesBy_67  v3 q).map .inr else (if (99 : Int32) ≤ gI q 7 0 then (F7_pagesBy_67  v3 q).map .inr else sx_let (gI q 7 0) (fun x2 => (F7_goesBy 7  q).bind (fun z3 => sx_let z3.1 (fun x4 => (if x2 < v1 then F7_pagesBy_62  v1 v2 (0 : Int32) v3 z3.2 else F7_pagesBy_62  v1 v2 x4 v3 z3.2))))))
set_option maxHeartbeats 400000 in
theorem F7_pagesBy_10b_ok (l : Launch)  {Q : Option Value → SQ → Prop} (v1 : Int32) (v2 : Int32) (v3 : Int32) (q : SQ) {res : (Int32 × SQ) ⊕ (Int32 × SQ)} (h : F7_pagesBy_10b  v1 v2 v3 q = some res) (hk9 : (∀ a8, res = .inl a8 → PF7_pagesBy l Q 10 [(0, .ref 0), (1, .int v1), (2, .int v2), (3, .int a8.1)] [] a8.2) ∧ (∀ b9, res = .inr b9 → Q (some (.int b9.1)) b9.2)) : PF7_pagesBy l Q 10 [(0, .ref 0), (1, .int v1), (2, .int v2), (3, .int v3)] [] q := by
  unfold F7_pagesBy_10b at h
  refine sx_aload_n dX7_pagesBy_10 rfl rfl ?_
  refine sx_getR dX7_pagesBy_11 (hs := shM_0) (k9 := 14) (hf := rfl) cb_X7 ⟨by decide, rfl, gw_813⟩ ?_
  refine sx_iconst (v := (0 : Int32)) dX7_pagesBy_14 (by decide) ?_
  refine sx_ialdC (j9 := 0) dX7_pagesBy_15 shM_7 (fun _ _ => rfl) (by decide) (by decide) ?_
  refine sx_iload_n dX7_pagesBy_16 rfl rfl ?_
  refine sx_icmp_ge (tgt := 67) dX7_pagesBy_17 (by decide) (fun c9 => ?_) (fun c9 => ?_)
  · replace h := sx_ip h c9
    obtain ⟨t9, h, hr9⟩ := sx_mp h
    have hk9 := hk9.2 _ hr9
    refine sx_locs [3] rfl ?_
    exact F7_pagesBy_67_ok l  v3 q h hk9
  · replace h := sx_in h c9
    refine sx_aload_n dX7_pagesBy_20 rfl rfl ?_
    refine sx_getR dX7_pagesBy_21 (hs := shM_0) (k9 := 14) (hf := rfl) cb_X7 ⟨by decide, rfl, gw_813⟩ ?_
    refine sx_iconst (v := (0 : Int32)) dX7_pagesBy_24 (by decide) ?_
    refine sx_ialdC (j9 := 0) dX7_pagesBy_25 shM_7 (fun _ _ => rfl) (by decide) (by decide) ?_
    refine sx_bipush (v := (99 : Int32)) dX7_pagesBy_26 (by decide) ?_
    refine sx_icmp_ge (tgt := 67) dX7_pagesBy_28 (by decide) (fun c9 => ?_) (fun c9 => ?_)
    · replace h := sx_ip h c9
      obtain ⟨t9, h, hr9⟩ := sx_mp h
      have hk9 := hk9.2 _ hr9
      refine sx_locs [3] rfl ?_
      exact F7_pagesBy_67_ok l  v3 q h hk9
    · replace h := sx_in h c9
      refine sx_aload_n dX7_pagesBy_31 rfl rfl ?_
      refine sx_getR dX7_pagesBy_32 (hs := shM_0) (k9 := 14) (hf := rfl) cb_X7 ⟨by decide, rfl, gw_813⟩ ?_
      refine sx_iconst (v := (0 : Int32)) dX7_pagesBy_35 (by decide) ?_
      refine sx_ialdC (j9 := 0) dX7_pagesBy_36 shM_7 (fun _ _ => rfl) (by decide) (by decide) ?_
      obtain ⟨x2, ex2, h⟩ := sx_lt h
      refine sx_nmI ex2 ?_
      refine sx_istore (ls2 := [(4, .int x2), (0, .ref 0), (1, .int v1), (2, .int v2), (3, .int v3)]) dX7_pagesBy_37 (by decide) rfl ?_
      refine sx_aload_n dX7_pagesBy_39 rfl rfl ?_
      refine sx_aload_n dX7_pagesBy_40 rfl rfl ?_
      refine sx_getR dX7_pagesBy_41 (hs := shM_0) (k9 := 14) (hf := rfl) cb_X7 ⟨by decide, rfl, gw_813⟩ ?_
      obtain ⟨z3, hz3, h⟩ := sx_bd h
      refine sx_callV (o := 0) (As := [.ref 7]) (rest := []) KSM (F7_goesBy_ck l 7 shM_7  q hz3) mi_X7_goesBy gw_982 rfl ⟨gw_984, gw_48⟩ shM_0 rfl rfl ⟨Nat.le_of_ble_eq_true rfl, Nat.le_of_ble_eq_true rfl⟩ (Nat.le_of_ble_eq_true rfl) dX7_pagesBy_44 rfl ?_
      obtain ⟨x4, ex4, h⟩ := sx_lt h
      refine sx_nmI ex4 ?_
      refine sx_istore (ls2 := [(5, .int x4), (4, .int x2), (0, .ref 0), (1, .int v1), (2, .int v2), (3, .int v3)]) dX7_pagesBy_47 (by decide) rfl ?_
      refine sx_iload_n dX7_pagesBy_49 rfl rfl ?_
      refine sx_iload dX7_pagesBy_50 rfl ?_
      refine sx_iload_n dX7_pagesBy_52 rfl rfl ?_
      refine sx_icmp_lt (tgt := 61) dX7_pagesBy_53 (by decide) (fun c9 => ?_) (fun c9 => ?_)
      · replace h := sx_ip h c9
        refine sx_iconst (v := (0 : Int32)) dX7_pagesBy_61 (by decide) ?_
        refine sx_locs [2, 3, 4] rfl ?_
        exact F7_pagesBy_62_ok l  v1 v2 (0 : Int32) v3 z3.2 h hk9
      · replace h := sx_in h c9
        refine sx_iload dX7_pagesBy_56 rfl ?_
        refine sx_goto (tgt := 62) dX7_pagesBy_58 (by decide) ?_
        refine sx_locs [2, 3, 4] rfl ?_
        exact F7_pagesBy_62_ok l  v1 v2 x4 v3 z3.2 h hk9
def F7_pagesBy_10  (v1 : Int32) (v2 : Int32) (v3 : Int32) (q : SQ) : Option (Int32 × SQ) := sx_loop (fun s10 => F7_pagesBy_10b  v1 v2 s10.1 s10.2) FU (v3, q)
set_option maxHeartbeats 400000 in
theorem F7_pagesBy_10_ok (l : Launch)  {Q : Option Value → SQ → Prop} (v1 : Int32) (v2 : Int32) (v3 : Int32) (q : SQ) {t : Int32 × SQ} (h : F7_pagesBy_10  v1 v2 v3 q = some t) (hk9 : Q (some (.int t.1)) t.2) : PF7_pagesBy l Q 10 [(0, .ref 0), (1, .int v1), (2, .int v2), (3, .int v3)] [] q := by
  unfold F7_pagesBy_10 at h
  have st : ∀ (s : Int32 × SQ) (res : (Int32 × SQ) ⊕ (Int32 × SQ)), F7_pagesBy_10b  v1 v2 s.1 s.2 = some res → (∀ s2, res = .inl s2 → PF7_pagesBy l Q 10 [(0, .ref 0), (1, .int v1), (2, .int v2), (3, .int s2.1)] [] s2.2) → (∀ t2, res = .inr t2 → Q (some (.int t2.1)) t2.2) → PF7_pagesBy l Q 10 [(0, .ref 0), (1, .int v1), (2, .int v2), (3, .int s.1)] [] s.2 :=
    fun s res hb hi ho => F7_pagesBy_10b_ok l  v1 v2 s.1 s.2 hb ⟨hi, ho⟩
  have h9 : PF7_pagesBy l Q 10 [(0, .ref 0), (1, .int v1), (2, .int v2), (3, .int v3)] [] q := sx_lp (body := fun s => F7_pagesBy_10b  v1 v2 s.1 s.2) (P := fun s => PF7_pagesBy l Q 10 [(0, .ref 0), (1, .int v1), (2, .int v2), (3, .int s.1)] [] s.2) (T := fun t => Q (some (.int t.1)) t.2) st FU (v3, q) t h hk9
  exact h9
def F7_pagesBy  (v1 : Int32) (v2 : Int32) (q : SQ) : Option (Int32 × SQ) :=
  (F7_begins 7  q).bind (fun z1 => F7_pagesBy_10  v1 v2 (0 : Int32) z1.2)
set_option maxHeartbeats 400000 in
theorem F7_pagesBy_ok (l : Launch)  {Q : Option Value → SQ → Prop} (v1 : Int32) (v2 : Int32) (q : SQ) {res : Int32 × SQ} (h : F7_pagesBy  v1 v2 q = some res) (hk9 : Q (some (.int res.1)) res.2) : PF7_pagesBy l Q 0 [(0, .ref 0), (1, .int v1), (2, .int v2)] [] q := by
  unfold F7_pagesBy at h
  refine sx_aload_n dX7_pagesBy_0 rfl rfl ?_
  refine sx_aload_n dX7_pagesBy_1 rfl rfl ?_
  refine sx_getR dX7_pagesBy_2 (hs := shM_0) (k9 := 14) (hf := rfl) cb_X7 ⟨by decide, rfl, gw_813⟩ ?_
  obtain ⟨z1, hz1, h⟩ := sx_bd h
  refine sx_callV (o := 0) (As := [.ref 7]) (rest := []) KSM (F7_begins_ck l 7 shM_7  q hz1) mi_X7_begins gw_795 rfl ⟨gw_797, gw_32⟩ shM_0 rfl rfl ⟨Nat.le_of_ble_eq_true rfl, Nat.le_of_ble_eq_true rfl⟩ (Nat.le_of_ble_eq_true rfl) dX7_pagesBy_5 rfl ?_
  refine sx_iconst (v := (0 : Int32)) dX7_pagesBy_8 (by decide) ?_
  refine sx_istore_n (ls2 := [(3, .int (0 : Int32)), (0, .ref 0), (1, .int v1), (2, .int v2)]) dX7_pagesBy_9 rfl (by decide) rfl ?_
  refine sx_locs [1, 2, 3, 0] rfl ?_
  exact F7_pagesBy_10_ok l  v1 v2 (0 : Int32) z1.2 h hk9
theorem F7_pagesBy_ck (l : Launch)  (v1 : Int32) (v2 : Int32) (q : SQ) {r : Int32 × SQ} (h : F7_pagesBy  v1 v2 q = some r) : CK shM vwCl KM tfM l yX7_pagesBy cX7_pagesBy 6 ((some .int)) 5 130 [.ref 0, .int v1, .int v2] q (some (.int r.1)) r.2 :=
  CK.of mi_X7_pagesBy (Nat.le_of_ble_eq_true rfl) (F7_pagesBy_ok l  v1 v2 q h ⟨rfl, rfl⟩)
theorem mi_X7_term : sx_MI yX7_term cX7_term 4 ((some .int)) 1 := ⟨by decide, ⟨by decide, by decide, by decide +kernel⟩, gw_1004, gw_68⟩
abbrev PF7_term (l : Launch) (Q : Option Value → SQ → Prop) : Nat → List (Nat × Value) → List Value → SQ → Prop := XX shM vwCl KM tfM l RX7 cX7_term 4 ((some .int)) { frames := 6, cells := 0, slots := 0, locals := 155 } Q
def F7_term_66  (v2 : Int32) (s0 : Int32) (q : SQ) : Option (Int32 × SQ) :=
  (if sx_bt s0 = true then sx_let (sI q 0 16 s0) (fun q4 => (F7_pagesBy  v2 (v2 + (7 : Int32)) q4).bind (fun z5 => sx_let z5.1 (fun x6 => sx_let (sI z5.2 0 16 (0 : Int32)) (fun q7 => some (x6, q7))))) else none)
set_option maxHeartbeats 400000 in
theorem F7_term_66_ok (l : Launch)  {Q : Option Value → SQ → Prop} (v2 : Int32) (s0 : Int32) (q : SQ) {res : Int32 × SQ} (h : F7_term_66  v2 s0 q = some res) (hk9 : Q (some (.int res.1)) res.2) : PF7_term l Q 66 [(0, .ref 0), (2, .int v2)] [.int s0, .ref 0] q := by
  unfold F7_term_66 at h
  obtain ⟨g9, h⟩ := sx_gd h
  obtain ⟨q4, eq4, h⟩ := sx_lt h
  refine sx_putZ dX7_term_66 (hs := shM_0) (k9 := 16) (hf := rfl) cb_X7 ⟨by decide, rfl, gw_815⟩ rfl (by decide) (sx_bit g9) ?_
  refine sx_nmQ eq4 ?_
  refine sx_aload_n dX7_term_69 rfl rfl ?_
  refine sx_iload_n dX7_term_70 rfl rfl ?_
  refine sx_iload_n dX7_term_71 rfl rfl ?_
  refine sx_bipush (v := (7 : Int32)) dX7_term_72 (by decide) ?_
  refine sx_iadd dX7_term_74 ?_
  obtain ⟨z5, hz5, h⟩ := sx_bd h
  refine sx_callV (o := 0) (As := [.int v2, .int (v2 + (7 : Int32))]) (rest := []) KSM (F7_pagesBy_ck l  v2 (v2 + (7 : Int32)) q4 hz5) mi_X7_pagesBy gw_1005 rfl ⟨gw_1007, gw_50⟩ shM_0 rfl rfl ⟨Nat.le_of_ble_eq_true rfl, Nat.le_of_ble_eq_true rfl⟩ (Nat.le_of_ble_eq_true rfl) dX7_term_75 rfl ?_
  obtain ⟨x6, ex6, h⟩ := sx_lt h
  refine sx_nmI ex6 ?_
  refine sx_istore_n (ls2 := [(3, .int x6), (0, .ref 0), (2, .int v2)]) dX7_term_78 rfl (by decide) rfl ?_
  refine sx_aload_n dX7_term_79 rfl rfl ?_
  refine sx_iconst (v := (0 : Int32)) dX7_term_80 (by decide) ?_
  obtain ⟨q7, eq7, h⟩ := sx_lt h
  refine sx_putZ dX7_term_81 (hs := shM_0) (k9 := 16) (hf := rfl) cb_X7 ⟨by decide, rfl, gw_815⟩ rfl (by decide) (by decide) ?_
  refine sx_nmQ eq7 ?_
  refine sx_iload_n dX7_term_84 rfl rfl ?_
  obtain rfl := Option.some.inj h
  exact sx_iret dX7_term_85 rfl hk9
def F7_term  (v1 : Int32) (q : SQ) : Option (Int32 × SQ) :=
  sx_let (sI q 0 0 (0 : Int32)) (fun q1 => (F7_in  v1 (0 : Int32) (2 : Int32) q1).bind (fun z2 => (if z2.1 = 0 then some ((-1 : Int32), z2.2) else (if v1 = 0 then (F7_pagesBy  (gI z2.2 2 36) (gI z2.2 2 37) z2.2).bind (fun z8 => some (z8.1, z8.2)) else sx_let ((gI z2.2 2 37) + (gI z2.2 2 39)) (fun x3 => (if v1 = (2 : Int32) then F7_term_66  x3 (1 : Int32) z2.2 else F7_term_66  x3 (0 : Int32) z2.2))))))
set_option maxHeartbeats 400000 in
theorem F7_term_ok (l : Launch)  {Q : Option Value → SQ → Prop} (v1 : Int32) (q : SQ) {res : Int32 × SQ} (h : F7_term  v1 q = some res) (hk9 : Q (some (.int res.1)) res.2) : PF7_term l Q 0 [(0, .ref 0), (1, .int v1)] [] q := by
  unfold F7_term at h
  refine sx_aload_n dX7_term_0 rfl rfl ?_
  refine sx_iconst (v := (0 : Int32)) dX7_term_1 (by decide) ?_
  obtain ⟨q1, eq1, h⟩ := sx_lt h
  refine sx_putI dX7_term_2 (hs := shM_0) (k9 := 0) (hf := rfl) cb_X7 ⟨by decide, rfl, gw_799⟩ rfl (by decide) ?_
  refine sx_nmQ eq1 ?_
  refine sx_iload_n dX7_term_5 rfl rfl ?_
  refine sx_iconst (v := (0 : Int32)) dX7_term_6 (by decide) ?_
  refine sx_iconst (v := (2 : Int32)) dX7_term_7 (by decide) ?_
  obtain ⟨z2, hz2, h⟩ := sx_bd h
  refine sx_callS (As := [.int v1, .int (0 : Int32), .int (2 : Int32)]) (rest := []) KSM (F7_in_ck l  v1 (0 : Int32) (2 : Int32) q1 hz2) mi_X7_in gw_865 rfl gw_866 ⟨Nat.le_of_ble_eq_true rfl, Nat.le_of_ble_eq_true rfl⟩ (Nat.le_of_ble_eq_true rfl) dX7_term_8 rfl ?_
  refine sx_if_ne (tgt := 16) dX7_term_11 (by decide) (fun c9 => ?_) (fun c9 => ?_)
  · replace h := sx_in h c9
    refine sx_iload_n dX7_term_16 rfl rfl ?_
    refine sx_if_ne (tgt := 39) dX7_term_17 (by decide) (fun c9 => ?_) (fun c9 => ?_)
    · replace h := sx_in h c9
      refine sx_aload_n dX7_term_39 rfl rfl ?_
      refine sx_getR dX7_term_40 (hs := shM_0) (k9 := 9) (hf := rfl) cb_X7 ⟨by decide, rfl, gw_808⟩ ?_
      refine sx_bipush (v := (37 : Int32)) dX7_term_43 (by decide) ?_
      refine sx_ialdC (j9 := 37) dX7_term_45 shM_2 (fun _ _ => rfl) (by decide) (by decide) ?_
      refine sx_aload_n dX7_term_46 rfl rfl ?_
      refine sx_getR dX7_term_47 (hs := shM_0) (k9 := 9) (hf := rfl) cb_X7 ⟨by decide, rfl, gw_808⟩ ?_
      refine sx_bipush (v := (39 : Int32)) dX7_term_50 (by decide) ?_
      refine sx_ialdC (j9 := 39) dX7_term_52 shM_2 (fun _ _ => rfl) (by decide) (by decide) ?_
      refine sx_iadd dX7_term_53 ?_
      obtain ⟨x3, ex3, h⟩ := sx_lt h
      refine sx_nmI ex3 ?_
      refine sx_istore_n (ls2 := [(2, .int x3), (0, .ref 0), (1, .int v1)]) dX7_term_54 rfl (by decide) rfl ?_
      refine sx_aload_n dX7_term_55 rfl rfl ?_
      refine sx_iload_n dX7_term_56 rfl rfl ?_
      refine sx_iconst (v := (2 : Int32)) dX7_term_57 (by decide) ?_
      refine sx_icmp_ne (tgt := 65) dX7_term_58 (by decide) (fun c9 => ?_) (fun c9 => ?_)
      · replace h := sx_in h c9
        refine sx_iconst (v := (0 : Int32)) dX7_term_65 (by decide) ?_
        refine sx_locs [1, 0] rfl ?_
        exact F7_term_66_ok l  x3 (0 : Int32) z2.2 h hk9
      · replace h := sx_ip h c9
        refine sx_iconst (v := (1 : Int32)) dX7_term_61 (by decide) ?_
        refine sx_goto (tgt := 66) dX7_term_62 (by decide) ?_
        refine sx_locs [1, 0] rfl ?_
        exact F7_term_66_ok l  x3 (1 : Int32) z2.2 h hk9
    · replace h := sx_ip h c9
      refine sx_aload_n dX7_term_20 rfl rfl ?_
      refine sx_aload_n dX7_term_21 rfl rfl ?_
      refine sx_getR dX7_term_22 (hs := shM_0) (k9 := 9) (hf := rfl) cb_X7 ⟨by decide, rfl, gw_808⟩ ?_
      refine sx_bipush (v := (36 : Int32)) dX7_term_25 (by decide) ?_
      refine sx_ialdC (j9 := 36) dX7_term_27 shM_2 (fun _ _ => rfl) (by decide) (by decide) ?_
      refine sx_aload_n dX7_term_28 rfl rfl ?_
      refine sx_getR dX7_term_29 (hs := shM_0) (k9 := 9) (hf := rfl) cb_X7 ⟨by decide, rfl, gw_808⟩ ?_
      refine sx_bipush (v := (37 : Int32)) dX7_term_32 (by decide) ?_
      refine sx_ialdC (j9 := 37) dX7_term_34 shM_2 (fun _ _ => rfl) (by decide) (by decide) ?_
      obtain ⟨z8, hz8, h⟩ := sx_bd h
      refine sx_callV (o := 0) (As := [.int (gI z2.2 2 36), .int (gI z2.2 2 37)]) (rest := []) KSM (F7_pagesBy_ck l  (gI z2.2 2 36) (gI z2.2 2 37) z2.2 hz8) mi_X7_pagesBy gw_1005 rfl ⟨gw_1007, gw_50⟩ shM_0 rfl rfl ⟨Nat.le_of_ble_eq_true rfl, Nat.le_of_ble_eq_true rfl⟩ (Nat.le_of_ble_eq_true rfl) dX7_term_35 rfl ?_
      obtain rfl := Option.some.inj h
      exact sx_iret dX7_term_38 rfl hk9
  · replace h := sx_ip h c9
    refine sx_iconst (v := (-1 : Int32)) dX7_term_14 (by decide) ?_
    obtain rfl := Option.some.inj h
    exact sx_iret dX7_term_15 rfl hk9
theorem F7_term_ck (l : Launch)  (v1 : Int32) (q : SQ) {r : Int32 × SQ} (h : F7_term  v1 q = some r) : CK shM vwCl KM tfM l yX7_term cX7_term 4 ((some .int)) 6 155 [.ref 0, .int v1] q (some (.int r.1)) r.2 :=
  CK.of mi_X7_term (Nat.le_of_ble_eq_true rfl) (F7_term_ok l  v1 q h ⟨rfl, rfl⟩)
