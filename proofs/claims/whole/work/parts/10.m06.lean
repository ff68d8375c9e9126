theorem mi_X6_rateOfPay : sx_MI yX6_rateOfPay cX6_rateOfPay 2 ((some .int)) 1 := ⟨by decide, ⟨by decide, by decide, by decide +kernel⟩, gw_730, gw_60⟩
abbrev PF6_rateOfPay (l : Launch) (Q : Option Value → SQ → Prop) : Nat → List (Nat × Value) → List Value → SQ → Prop := XX shX vwCl KX tfX l RX6 cX6_rateOfPay 2 ((some .int)) { frames := 0, cells := 0, slots := 0, locals := 0 } Q
def F6_rateOfPay  (v1 : Int32) (q : SQ) : Option (Int32 × SQ) :=
  sx_let (sL q 0 11 ((gL q 0 11) + (1 : Int64))) (fun q1 => (if sx_ix v1 8 = true then some (gI q1 22 v1.toNatClampNeg, q1) else none))
set_option maxHeartbeats 400000 in
theorem F6_rateOfPay_ok (l : Launch)  {Q : Option Value → SQ → Prop} (v1 : Int32) (q : SQ) {res : Int32 × SQ} (h : F6_rateOfPay  v1 q = some res) (hk9 : Q (some (.int res.1)) res.2) : PF6_rateOfPay l Q 0 [(0, .ref 0), (1, .int v1)] [] q := by
  unfold F6_rateOfPay at h
  refine sx_aload_n dX6_rateOfPay_0 rfl rfl ?_
  refine sx_dup dX6_rateOfPay_1 rfl ?_
  refine sx_getL dX6_rateOfPay_2 (hs := shX_0) (k9 := 11) (hf := rfl) cb_X6 ⟨by decide, rfl, gw_303⟩ ?_
  refine sx_lconst (v := (1 : Int64)) dX6_rateOfPay_5 (by decide) ?_
  refine sx_ladd dX6_rateOfPay_6 ?_
  obtain ⟨q1, eq1, h⟩ := sx_lt h
  refine sx_putL dX6_rateOfPay_7 (hs := shX_0) (k9 := 11) (hf := rfl) cb_X6 ⟨by decide, rfl, gw_303⟩ rfl (by decide) ?_
  refine sx_nmQ eq1 ?_
  refine sx_aload_n dX6_rateOfPay_10 rfl rfl ?_
  refine sx_getR dX6_rateOfPay_11 (hs := shX_0) (k9 := 2) (hf := rfl) cb_X6 ⟨by decide, rfl, gw_294⟩ ?_
  refine sx_getR dX6_rateOfPay_14 (hs := shX_19) (k9 := 4) (hf := rfl) cb_X0 ⟨by decide, rfl, gw_194⟩ ?_
  refine sx_iload_n dX6_rateOfPay_17 rfl rfl ?_
  obtain ⟨g9, h⟩ := sx_gd h
  refine sx_iald dX6_rateOfPay_18 shX_22 (fun _ _ => rfl) (sx_ix_in g9) ?_
  obtain rfl := Option.some.inj h
  exact sx_iret dX6_rateOfPay_19 rfl hk9
theorem F6_rateOfPay_ck (l : Launch)  (v1 : Int32) (q : SQ) {r : Int32 × SQ} (h : F6_rateOfPay  v1 q = some r) : CK shX vwCl KX tfX l yX6_rateOfPay cX6_rateOfPay 2 ((some .int)) 0 0 [.ref 0, .int v1] q (some (.int r.1)) r.2 :=
  CK.of mi_X6_rateOfPay (Nat.le_of_ble_eq_true rfl) (F6_rateOfPay_ok l  v1 q h ⟨rfl, rfl⟩)
theorem mi_X6_rateOfTold : sx_MI yX6_rateOfTold cX6_rateOfTold 2 ((some .int)) 1 := ⟨by decide, ⟨by decide, by decide, by decide +kernel⟩, gw_734, gw_60⟩
abbrev PF6_rateOfTold (l : Launch) (Q : Option Value → SQ → Prop) : Nat → List (Nat × Value) → List Value → SQ → Prop := XX shX vwCl KX tfX l RX6 cX6_rateOfTold 2 ((some .int)) { frames := 1, cells := 0, slots := 0, locals := 21 } Q
def F6_rateOfTold  (v1 : Int32) (q : SQ) : Option (Int32 × SQ) :=
  sx_let (sL q 0 11 ((gL q 0 11) + (10 : Int64))) (fun q1 => (F6_rateOfPay  v1 q1).bind (fun z2 => (if sx_ix v1 8 = true then some (z2.1 - (gI z2.2 20 v1.toNatClampNeg), z2.2) else none)))
set_option maxHeartbeats 400000 in
theorem F6_rateOfTold_ok (l : Launch)  {Q : Option Value → SQ → Prop} (v1 : Int32) (q : SQ) {res : Int32 × SQ} (h : F6_rateOfTold  v1 q = some res) (hk9 : Q (some (.int res.1)) res.2) : PF6_rateOfTold l Q 0 [(0, .ref 0), (1, .int v1)] [] q := by
  unfold F6_rateOfTold at h
  refine sx_aload_n dX6_rateOfTold_0 rfl rfl ?_
  refine sx_dup dX6_rateOfTold_1 rfl ?_
  refine sx_getL dX6_rateOfTold_2 (hs := shX_0) (k9 := 11) (hf := rfl) cb_X6 ⟨by decide, rfl, gw_303⟩ ?_
  refine sx_ldc2 (v := (10 : Int64)) dX6_rateOfTold_5 gw_735 ?_
  refine sx_ladd dX6_rateOfTold_8 ?_
  obtain ⟨q1, eq1, h⟩ := sx_lt h
  refine sx_putL dX6_rateOfTold_9 (hs := shX_0) (k9 := 11) (hf := rfl) cb_X6 ⟨by decide, rfl, gw_303⟩ rfl (by decide) ?_
  refine sx_nmQ eq1 ?_
  refine sx_aload_n dX6_rateOfTold_12 rfl rfl ?_
  refine sx_iload_n dX6_rateOfTold_13 rfl rfl ?_
  obtain ⟨z2, hz2, h⟩ := sx_bd h
  refine sx_callV (o := 0) (As := [.int v1]) (rest := []) KSX (F6_rateOfPay_ck l  v1 q1 hz2) mi_X6_rateOfPay gw_727 rfl ⟨gw_729, gw_23⟩ shX_0 rfl rfl ⟨Nat.le_of_ble_eq_true rfl, Nat.le_of_ble_eq_true rfl⟩ (Nat.le_of_ble_eq_true rfl) dX6_rateOfTold_14 rfl ?_
  refine sx_aload_n dX6_rateOfTold_17 rfl rfl ?_
  refine sx_getR dX6_rateOfTold_18 (hs := shX_0) (k9 := 2) (hf := rfl) cb_X6 ⟨by decide, rfl, gw_294⟩ ?_
  refine sx_getR dX6_rateOfTold_21 (hs := shX_19) (k9 := 2) (hf := rfl) cb_X0 ⟨by decide, rfl, gw_190⟩ ?_
  refine sx_iload_n dX6_rateOfTold_24 rfl rfl ?_
  obtain ⟨g9, h⟩ := sx_gd h
  refine sx_iald dX6_rateOfTold_25 shX_20 (fun _ _ => rfl) (sx_ix_in g9) ?_
  refine sx_isub dX6_rateOfTold_26 ?_
  obtain rfl := Option.some.inj h
  exact sx_iret dX6_rateOfTold_27 rfl hk9
theorem F6_rateOfTold_ck (l : Launch)  (v1 : Int32) (q : SQ) {r : Int32 × SQ} (h : F6_rateOfTold  v1 q = some r) : CK shX vwCl KX tfX l yX6_rateOfTold cX6_rateOfTold 2 ((some .int)) 1 21 [.ref 0, .int v1] q (some (.int r.1)) r.2 :=
  CK.of mi_X6_rateOfTold (Nat.le_of_ble_eq_true rfl) (F6_rateOfTold_ok l  v1 q h ⟨rfl, rfl⟩)
theorem mi_X6_rateOfUnforeseen : sx_MI yX6_rateOfUnforeseen cX6_rateOfUnforeseen 2 ((some .int)) 1 := ⟨by decide, ⟨by decide, by decide, by decide +kernel⟩, gw_739, gw_60⟩
abbrev PF6_rateOfUnforeseen (l : Launch) (Q : Option Value → SQ → Prop) : Nat → List (Nat × Value) → List Value → SQ → Prop := XX shX vwCl KX tfX l RX6 cX6_rateOfUnforeseen 2 ((some .int)) { frames := 1, cells := 0, slots := 0, locals := 21 } Q
def F6_rateOfUnforeseen  (v1 : Int32) (q : SQ) : Option (Int32 × SQ) :=
  sx_let (sL q 0 11 ((gL q 0 11) + (100 : Int64))) (fun q1 => (F6_rateOfPay  v1 q1).bind (fun z2 => (if sx_ix v1 8 = true then some (z2.1 + (gI z2.2 20 v1.toNatClampNeg), z2.2) else none)))
set_option maxHeartbeats 400000 in
theorem F6_rateOfUnforeseen_ok (l : Launch)  {Q : Option Value → SQ → Prop} (v1 : Int32) (q : SQ) {res : Int32 × SQ} (h : F6_rateOfUnforeseen  v1 q = some res) (hk9 : Q (some (.int res.1)) res.2) : PF6_rateOfUnforeseen l Q 0 [(0, .ref 0), (1, .int v1)] [] q := by
  unfold F6_rateOfUnforeseen at h
  refine sx_aload_n dX6_rateOfUnforeseen_0 rfl rfl ?_
  refine sx_dup dX6_rateOfUnforeseen_1 rfl ?_
  refine sx_getL dX6_rateOfUnforeseen_2 (hs := shX_0) (k9 := 11) (hf := rfl) cb_X6 ⟨by decide, rfl, gw_303⟩ ?_
  refine sx_ldc2 (v := (100 : Int64)) dX6_rateOfUnforeseen_5 gw_740 ?_
  refine sx_ladd dX6_rateOfUnforeseen_8 ?_
  obtain ⟨q1, eq1, h⟩ := sx_lt h
  refine sx_putL dX6_rateOfUnforeseen_9 (hs := shX_0) (k9 := 11) (hf := rfl) cb_X6 ⟨by decide, rfl, gw_303⟩ rfl (by decide) ?_
  refine sx_nmQ eq1 ?_
  refine sx_aload_n dX6_rateOfUnforeseen_12 rfl rfl ?_
  refine sx_iload_n dX6_rateOfUnforeseen_13 rfl rfl ?_
  obtain ⟨z2, hz2, h⟩ := sx_bd h
  refine sx_callV (o := 0) (As := [.int v1]) (rest := []) KSX (F6_rateOfPay_ck l  v1 q1 hz2) mi_X6_rateOfPay gw_727 rfl ⟨gw_729, gw_23⟩ shX_0 rfl rfl ⟨Nat.le_of_ble_eq_true rfl, Nat.le_of_ble_eq_true rfl⟩ (Nat.le_of_ble_eq_true rfl) dX6_rateOfUnforeseen_14 rfl ?_
  refine sx_aload_n dX6_rateOfUnforeseen_17 rfl rfl ?_
  refine sx_getR dX6_rateOfUnforeseen_18 (hs := shX_0) (k9 := 2) (hf := rfl) cb_X6 ⟨by decide, rfl, gw_294⟩ ?_
  refine sx_getR dX6_rateOfUnforeseen_21 (hs := shX_19) (k9 := 2) (hf := rfl) cb_X0 ⟨by decide, rfl, gw_190⟩ ?_
  refine sx_iload_n dX6_rateOfUnforeseen_24 rfl rfl ?_
  obtain ⟨g9, h⟩ := sx_gd h
  refine sx_iald dX6_rateOfUnforeseen_25 shX_20 (fun _ _ => rfl) (sx_ix_in g9) ?_
  refine sx_iadd dX6_rateOfUnforeseen_26 ?_
  obtain rfl := Option.some.inj h
  exact sx_iret dX6_rateOfUnforeseen_27 rfl hk9
theorem F6_rateOfUnforeseen_ck (l : Launch)  (v1 : Int32) (q : SQ) {r : Int32 × SQ} (h : F6_rateOfUnforeseen  v1 q = some r) : CK shX vwCl KX tfX l yX6_rateOfUnforeseen cX6_rateOfUnforeseen 2 ((some .int)) 1 21 [.ref 0, .int v1] q (some (.int r.1)) r.2 :=
  CK.of mi_X6_rateOfUnforeseen (Nat.le_of_ble_eq_true rfl) (F6_rateOfUnforeseen_ok l  v1 q h ⟨rfl, rfl⟩)
theorem mi_X6_rateOfDoing : sx_MI yX6_rateOfDoing cX6_rateOfDoing 2 ((some .int)) 1 := ⟨by decide, ⟨by decide, by decide, by decide +kernel⟩, gw_744, gw_60⟩
abbrev PF6_rateOfDoing (l : Launch) (Q : Option Value → SQ → Prop) : Nat → List (Nat × Value) → List Value → SQ → Prop := XX shX vwCl KX tfX l RX6 cX6_rateOfDoing 2 ((some .int)) { frames := 2, cells := 0, slots := 0, locals := 42 } Q
def F6_rateOfDoing  (v1 : Int32) (q : SQ) : Option (Int32 × SQ) :=
  sx_let (sL q 0 11 ((gL q 0 11) + (1000 : Int64))) (fun q1 => (F6_rateOfTold  v1 q1).bind (fun z2 => (if sx_ix v1 8 = true then some (z2.1 + (gI z2.2 21 v1.toNatClampNeg), z2.2) else none)))
set_option maxHeartbeats 400000 in
theorem F6_rateOfDoing_ok (l : Launch)  {Q : Option Value → SQ → Prop} (v1 : Int32) (q : SQ) {res : Int32 × SQ} (h : F6_rateOfDoing  v1 q = some res) (hk9 : Q (some (.int res.1)) res.2) : PF6_rateOfDoing l Q 0 [(0, .ref 0), (1, .int v1)] [] q := by
  unfold F6_rateOfDoing at h
  refine sx_aload_n dX6_rateOfDoing_0 rfl rfl ?_
  refine sx_dup dX6_rateOfDoing_1 rfl ?_
  refine sx_getL dX6_rateOfDoing_2 (hs := shX_0) (k9 := 11) (hf := rfl) cb_X6 ⟨by decide, rfl, gw_303⟩ ?_
  refine sx_ldc2 (v := (1000 : Int64)) dX6_rateOfDoing_5 gw_745 ?_
  refine sx_ladd dX6_rateOfDoing_8 ?_
  obtain ⟨q1, eq1, h⟩ := sx_lt h
  refine sx_putL dX6_rateOfDoing_9 (hs := shX_0) (k9 := 11) (hf := rfl) cb_X6 ⟨by decide, rfl, gw_303⟩ rfl (by decide) ?_
  refine sx_nmQ eq1 ?_
  refine sx_aload_n dX6_rateOfDoing_12 rfl rfl ?_
  refine sx_iload_n dX6_rateOfDoing_13 rfl rfl ?_
  obtain ⟨z2, hz2, h⟩ := sx_bd h
  refine sx_callV (o := 0) (As := [.int v1]) (rest := []) KSX (F6_rateOfTold_ck l  v1 q1 hz2) mi_X6_rateOfTold gw_731 rfl ⟨gw_733, gw_24⟩ shX_0 rfl rfl ⟨Nat.le_of_ble_eq_true rfl, Nat.le_of_ble_eq_true rfl⟩ (Nat.le_of_ble_eq_true rfl) dX6_rateOfDoing_14 rfl ?_
  refine sx_aload_n dX6_rateOfDoing_17 rfl rfl ?_
  refine sx_getR dX6_rateOfDoing_18 (hs := shX_0) (k9 := 2) (hf := rfl) cb_X6 ⟨by decide, rfl, gw_294⟩ ?_
  refine sx_getR dX6_rateOfDoing_21 (hs := shX_19) (k9 := 3) (hf := rfl) cb_X0 ⟨by decide, rfl, gw_192⟩ ?_
  refine sx_iload_n dX6_rateOfDoing_24 rfl rfl ?_
  obtain ⟨g9, h⟩ := sx_gd h
  refine sx_iald dX6_rateOfDoing_25 shX_21 (fun _ _ => rfl) (sx_ix_in g9) ?_
  refine sx_iadd dX6_rateOfDoing_26 ?_
  obtain rfl := Option.some.inj h
  exact sx_iret dX6_rateOfDoing_27 rfl hk9
theorem F6_rateOfDoing_ck (l : Launch)  (v1 : Int32) (q : SQ) {r : Int32 × SQ} (h : F6_rateOfDoing  v1 q = some r) : CK shX vwCl KX tfX l yX6_rateOfDoing cX6_rateOfDoing 2 ((some .int)) 2 42 [.ref 0, .int v1] q (some (.int r.1)) r.2 :=
  CK.of mi_X6_rateOfDoing (Nat.le_of_ble_eq_true rfl) (F6_rateOfDoing_ok l  v1 q h ⟨rfl, rfl⟩)
theorem mi_X6_rateOfWell : sx_MI yX6_rateOfWell cX6_rateOfWell 2 ((some .int)) 1 := ⟨by decide, ⟨by decide, by decide, by decide +kernel⟩, gw_749, gw_60⟩
abbrev PF6_rateOfWell (l : Launch) (Q : Option Value → SQ → Prop) : Nat → List (Nat × Value) → List Value → SQ → Prop := XX shX vwCl KX tfX l RX6 cX6_rateOfWell 2 ((some .int)) { frames := 3, cells := 0, slots := 0, locals := 63 } Q
def F6_rateOfWell  (v1 : Int32) (q : SQ) : Option (Int32 × SQ) :=
  sx_let (sL q 0 11 ((gL q 0 11) + (10000 : Int64))) (fun q1 => (F6_rateOfDoing  v1 q1).bind (fun z2 => some ((2 : Int32) * z2.1, z2.2)))
set_option maxHeartbeats 400000 in
theorem F6_rateOfWell_ok (l : Launch)  {Q : Option Value → SQ → Prop} (v1 : Int32) (q : SQ) {res : Int32 × SQ} (h : F6_rateOfWell  v1 q = some res) (hk9 : Q (some (.int res.1)) res.2) : PF6_rateOfWell l Q 0 [(0, .ref 0), (1, .int v1)] [] q := by
  unfold F6_rateOfWell at h
  refine sx_aload_n dX6_rateOfWell_0 rfl rfl ?_
  refine sx_dup dX6_rateOfWell_1 rfl ?_
  refine sx_getL dX6_rateOfWell_2 (hs := shX_0) (k9 := 11) (hf := rfl) cb_X6 ⟨by decide, rfl, gw_303⟩ ?_
  refine sx_ldc2 (v := (10000 : Int64)) dX6_rateOfWell_5 gw_750 ?_
  refine sx_ladd dX6_rateOfWell_8 ?_
  obtain ⟨q1, eq1, h⟩ := sx_lt h
  refine sx_putL dX6_rateOfWell_9 (hs := shX_0) (k9 := 11) (hf := rfl) cb_X6 ⟨by decide, rfl, gw_303⟩ rfl (by decide) ?_
  refine sx_nmQ eq1 ?_
  refine sx_iconst (v := (2 : Int32)) dX6_rateOfWell_12 (by decide) ?_
  refine sx_aload_n dX6_rateOfWell_13 rfl rfl ?_
  refine sx_iload_n dX6_rateOfWell_14 rfl rfl ?_
  obtain ⟨z2, hz2, h⟩ := sx_bd h
  refine sx_callV (o := 0) (As := [.int v1]) (rest := [.int (2 : Int32)]) KSX (F6_rateOfDoing_ck l  v1 q1 hz2) mi_X6_rateOfDoing gw_741 rfl ⟨gw_743, gw_26⟩ shX_0 rfl rfl ⟨Nat.le_of_ble_eq_true rfl, Nat.le_of_ble_eq_true rfl⟩ (Nat.le_of_ble_eq_true rfl) dX6_rateOfWell_15 rfl ?_
  refine sx_imul dX6_rateOfWell_18 ?_
  obtain rfl := Option.some.inj h
  exact sx_iret dX6_rateOfWell_19 rfl hk9
theorem F6_rateOfWell_ck (l : Launch)  (v1 : Int32) (q : SQ) {r : Int32 × SQ} (h : F6_rateOfWell  v1 q = some r) : CK shX vwCl KX tfX l yX6_rateOfWell cX6_rateOfWell 2 ((some .int)) 3 63 [.ref 0, .int v1] q (some (.int r.1)) r.2 :=
  CK.of mi_X6_rateOfWell (Nat.le_of_ble_eq_true rfl) (F6_rateOfWell_ok l  v1 q h ⟨rfl, rfl⟩)
theorem mi_X6_rateOfCommon : sx_MI yX6_rateOfCommon cX6_rateOfCommon 2 ((some .int)) 1 := ⟨by decide, ⟨by decide, by decide, by decide +kernel⟩, gw_754, gw_60⟩
abbrev PF6_rateOfCommon (l : Launch) (Q : Option Value → SQ → Prop) : Nat → List (Nat × Value) → List Value → SQ → Prop := XX shX vwCl KX tfX l RX6 cX6_rateOfCommon 2 ((some .int)) { frames := 1, cells := 0, slots := 0, locals := 21 } Q
def F6_rateOfCommon  (v1 : Int32) (q : SQ) : Option (Int32 × SQ) :=
  sx_let (sL q 0 11 ((gL q 0 11) + (100000 : Int64))) (fun q1 => (F6_rateOfPay  v1 q1).bind (fun z2 => some (z2.1 + (gI z2.2 19 1), z2.2)))
set_option maxHeartbeats 400000 in
theorem F6_rateOfCommon_ok (l : Launch)  {Q : Option Value → SQ → Prop} (v1 : Int32) (q : SQ) {res : Int32 × SQ} (h : F6_rateOfCommon  v1 q = some res) (hk9 : Q (some (.int res.1)) res.2) : PF6_rateOfCommon l Q 0 [(0, .ref 0), (1, .int v1)] [] q := by
  unfold F6_rateOfCommon at h
  refine sx_aload_n dX6_rateOfCommon_0 rfl rfl ?_
  refine sx_dup dX6_rateOfCommon_1 rfl ?_
  refine sx_getL dX6_rateOfCommon_2 (hs := shX_0) (k9 := 11) (hf := rfl) cb_X6 ⟨by decide, rfl, gw_303⟩ ?_
  refine sx_ldc2 (v := (100000 : Int64)) dX6_rateOfCommon_5 gw_755 ?_
  refine sx_ladd dX6_rateOfCommon_8 ?_
  obtain ⟨q1, eq1, h⟩ := sx_lt h
  refine sx_putL dX6_rateOfCommon_9 (hs := shX_0) (k9 := 11) (hf := rfl) cb_X6 ⟨by decide, rfl, gw_303⟩ rfl (by decide) ?_
  refine sx_nmQ eq1 ?_
  refine sx_aload_n dX6_rateOfCommon_12 rfl rfl ?_
  refine sx_iload_n dX6_rateOfCommon_13 rfl rfl ?_
  obtain ⟨z2, hz2, h⟩ := sx_bd h
  refine sx_callV (o := 0) (As := [.int v1]) (rest := []) KSX (F6_rateOfPay_ck l  v1 q1 hz2) mi_X6_rateOfPay gw_727 rfl ⟨gw_729, gw_23⟩ shX_0 rfl rfl ⟨Nat.le_of_ble_eq_true rfl, Nat.le_of_ble_eq_true rfl⟩ (Nat.le_of_ble_eq_true rfl) dX6_rateOfCommon_14 rfl ?_
  refine sx_aload_n dX6_rateOfCommon_17 rfl rfl ?_
  refine sx_getR dX6_rateOfCommon_18 (hs := shX_0) (k9 := 2) (hf := rfl) cb_X6 ⟨by decide, rfl, gw_294⟩ ?_
  refine sx_getI dX6_rateOfCommon_21 (hs := shX_19) (k9 := 1) (hf := rfl) cb_X0 ⟨by decide, rfl, gw_188⟩ ?_
  refine sx_iadd dX6_rateOfCommon_24 ?_
  obtain rfl := Option.some.inj h
  exact sx_iret dX6_rateOfCommon_25 rfl hk9
theorem F6_rateOfCommon_ck (l : Launch)  (v1 : Int32) (q : SQ) {r : Int32 × SQ} (h : F6_rateOfCommon  v1 q = some r) : CK shX vwCl KX tfX l yX6_rateOfCommon cX6_rateOfCommon 2 ((some .int)) 1 21 [.ref 0, .int v1] q (some (.int r.1)) r.2 :=
  CK.of mi_X6_rateOfCommon (Nat.le_of_ble_eq_true rfl) (F6_rateOfCommon_ok l  v1 q h ⟨rfl, rfl⟩)
theorem mi_X6_rate : sx_MI yX6_rate cX6_rate 3 ((some .int)) 2 := ⟨by decide, ⟨by decide, by decide, by decide +kernel⟩, gw_726, gw_60⟩
abbrev PF6_rate (l : Launch) (Q : Option Value → SQ → Prop) : Nat → List (Nat × Value) → List Value → SQ → Prop := XX shX vwCl KX tfX l RX6 cX6_rate 3 ((some .int)) { frames := 4, cells := 0, slots := 0, locals := 84 } Q
def F6_rate  (v1 : Int32) (v2 : Int32) (q : SQ) : Option (Int32 × SQ) :=
  (F6_isChild  v2 q).bind (fun z1 => (if z1.1 = 0 then some ((-1000000 : Int32), z1.2) else (if v1 = (0 : Int32) then (F6_rateOfPay  v2 z1.2).bind (fun z2 => some (z2.1, z2.2)) else (if v1 = (1 : Int32) then (F6_rateOfTold  v2 z1.2).bind (fun z3 => some (z3.1, z3.2)) else (if v1 = (2 : Int32) then (F6_rateOfUnforeseen  v2 z1.2).bind (fun z4 => some (z4.1, z4.2)) else (if v1 = (3 : Int32) then (F6_rateOfDoing  v2 z1.2).bind (fun z5 => some (z5.1, z5.2)) else (if v1 = (4 : Int32) then (F6_rateOfWell  v2 z1.2).bind (fun z6 => some (z6.1, z6.2)) else (if v1 = (5 : Int32) then (F6_rateOfCommon  v2 z1.2).bind (fun z7 => some (z7.1, z7.2)) else some ((-1000000 : Int32), z1.2)))))))))
set_option maxHeartbeats 400000 in
theorem F6_rate_ok (l : Launch)  {Q : Option Value → SQ → Prop} (v1 : Int32) (v2 : Int32) (q : SQ) {res : Int32 × SQ} (h : F6_rate  v1 v2 q = some res) (hk9 : Q (some (.int res.1)) res.2) : PF6_rate l Q 0 [(0, .ref 0), (1, .int v1), (2, .int v2)] [] q := by
  unfold F6_rate at h
  refine sx_aload_n dX6_rate_0 rfl rfl ?_
  refine sx_iload_n dX6_rate_1 rfl rfl ?_
  obtain ⟨z1, hz1, h⟩ := sx_bd h
  refine sx_callV (o := 0) (As := [.int v2]) (rest := []) KSX (F6_isChild_ck l  v2 q hz1) mi_X6_isChild gw_489 rfl ⟨gw_491, gw_13⟩ shX_0 rfl rfl ⟨Nat.le_of_ble_eq_true rfl, Nat.le_of_ble_eq_true rfl⟩ (Nat.le_of_ble_eq_true rfl) dX6_rate_2 rfl ?_
  refine sx_if_ne (tgt := 11) dX6_rate_5 (by decide) (fun c9 => ?_) (fun c9 => ?_)
  · replace h := sx_in h c9
    refine sx_iload_n dX6_rate_11 rfl rfl ?_
    by_cases c9_0 : v1 = (0 : Int32)
    · replace h := sx_ip h c9_0
      refine sx_tblIn (tgt := 52) dX6_rate_12 (by rw [c9_0]; decide) (by rw [c9_0]; decide) (by rw [c9_0]; rfl) (by decide) ?_
      refine sx_aload_n dX6_rate_52 rfl rfl ?_
      refine sx_iload_n dX6_rate_53 rfl rfl ?_
      obtain ⟨z2, hz2, h⟩ := sx_bd h
      refine sx_callV (o := 0) (As := [.int v2]) (rest := []) KSX (F6_rateOfPay_ck l  v2 z1.2 hz2) mi_X6_rateOfPay gw_727 rfl ⟨gw_729, gw_23⟩ shX_0 rfl rfl ⟨Nat.le_of_ble_eq_true rfl, Nat.le_of_ble_eq_true rfl⟩ (Nat.le_of_ble_eq_true rfl) dX6_rate_54 rfl ?_
      obtain rfl := Option.some.inj h
      exact sx_iret dX6_rate_57 rfl hk9
    · replace h := sx_in h c9_0
      by_cases c9_1 : v1 = (1 : Int32)
      · replace h := sx_ip h c9_1
        refine sx_tblIn (tgt := 58) dX6_rate_12 (by rw [c9_1]; decide) (by rw [c9_1]; decide) (by rw [c9_1]; rfl) (by decide) ?_
        refine sx_aload_n dX6_rate_58 rfl rfl ?_
        refine sx_iload_n dX6_rate_59 rfl rfl ?_
        obtain ⟨z3, hz3, h⟩ := sx_bd h
        refine sx_callV (o := 0) (As := [.int v2]) (rest := []) KSX (F6_rateOfTold_ck l  v2 z1.2 hz3) mi_X6_rateOfTold gw_731 rfl ⟨gw_733, gw_24⟩ shX_0 rfl rfl ⟨Nat.le_of_ble_eq_true rfl, Nat.le_of_ble_eq_true rfl⟩ (Nat.le_of_ble_eq_true rfl) dX6_rate_60 rfl ?_
        obtain rfl := Option.some.inj h
        exact sx_iret dX6_rate_63 rfl hk9
      · replace h := sx_in h c9_1
        by_cases c9_2 : v1 = (2 : Int32)
        · replace h := sx_ip h c9_2
          refine sx_tblIn (tgt := 64) dX6_rate_12 (by rw [c9_2]; decide) (by rw [c9_2]; decide) (by rw [c9_2]; rfl) (by decide) ?_
          refine sx_aload_n dX6_rate_64 rfl rfl ?_
          refine sx_iload_n dX6_rate_65 rfl rfl ?_
          obtain ⟨z4, hz4, h⟩ := sx_bd h
          refine sx_callV (o := 0) (As := [.int v2]) (rest := []) KSX (F6_rateOfUnforeseen_ck l  v2 z1.2 hz4) mi_X6_rateOfUnforeseen gw_736 rfl ⟨gw_738, gw_25⟩ shX_0 rfl rfl ⟨Nat.le_of_ble_eq_true rfl, Nat.le_of_ble_eq_true rfl⟩ (Nat.le_of_ble_eq_true rfl) dX6_rate_66 rfl ?_
          obtain rfl := Option.some.inj h
          exact sx_iret dX6_rate_69 rfl hk9
        · replace h := sx_in h c9_2
          by_cases c9_3 : v1 = (3 : Int32)
          · replace h := sx_ip h c9_3
            refine sx_tblIn (tgt := 70) dX6_rate_12 (by rw [c9_3]; decide) (by rw [c9_3]; decide) (by rw [c9_3]; rfl) (by decide) ?_
            refine sx_aload_n dX6_rate_70 rfl rfl ?_
            refine sx_iload_n dX6_rate_71 rfl rfl ?_
            obtain ⟨z5, hz5, h⟩ := sx_bd h
            refine sx_callV (o := 0) (As := [.int v2]) (rest := []) KSX (F6_rateOfDoing_ck l  v2 z1.2 hz5) mi_X6_rateOfDoing gw_741 rfl ⟨gw_743, gw_26⟩ shX_0 rfl rfl ⟨Nat.le_of_ble_eq_true rfl, Nat.le_of_ble_eq_true rfl⟩ (Nat.le_of_ble_eq_true rfl) dX6_rate_72 rfl ?_
            obtain rfl := Option.some.inj h
            exact sx_iret dX6_rate_75 rfl hk9
          · replace h := sx_in h c9_3
            by_cases c9_4 : v1 = (4 : Int32)
            · replace h := sx_ip h c9_4
              refine sx_tblIn (tgt := 76) dX6_rate_12 (by rw [c9_4]; decide) (by rw [c9_4]; decide) (by rw [c9_4]; rfl) (by decide) ?_
              refine sx_aload_n dX6_rate_76 rfl rfl ?_
              refine sx_iload_n dX6_rate_77 rfl rfl ?_
              obtain ⟨z6, hz6, h⟩ := sx_bd h
              refine sx_callV (o := 0) (As := [.int v2]) (rest := []) KSX (F6_rateOfWell_ck l  v2 z1.2 hz6) mi_X6_rateOfWell gw_746 rfl ⟨gw_748, gw_27⟩ shX_0 rfl rfl ⟨Nat.le_of_ble_eq_true rfl, Nat.le_of_ble_eq_true rfl⟩ (Nat.le_of_ble_eq_true rfl) dX6_rate_78 rfl ?_
              obtain rfl := Option.some.inj h
              exact sx_iret dX6_rate_81 rfl hk9
            · replace h := sx_in h c9_4
              by_cases c9_5 : v1 = (5 : Int32)
              · replace h := sx_ip h c9_5
                refine sx_tblIn (tgt := 82) dX6_rate_12 (by rw [c9_5]; decide) (by rw [c9_5]; decide) (by rw [c9_5]; rfl) (by decide) ?_
                refine sx_aload_n dX6_rate_82 rfl rfl ?_
                refine sx_iload_n dX6_rate_83 rfl rfl ?_
                obtain ⟨z7, hz7, h⟩ := sx_bd h
                refine sx_callV (o := 0) (As := [.int v2]) (rest := []) KSX (F6_rateOfCommon_ck l  v2 z1.2 hz7) mi_X6_rateOfCommon gw_751 rfl ⟨gw_753, gw_28⟩ shX_0 rfl rfl ⟨Nat.le_of_ble_eq_true rfl, Nat.le_of_ble_eq_true rfl⟩ (Nat.le_of_ble_eq_true rfl) dX6_rate_84 rfl ?_
                obtain rfl := Option.some.inj h
                exact sx_iret dX6_rate_87 rfl hk9
              · replace h := sx_in h c9_5
                have n0 := lv_neT c9_0 (a := 0) (by decide)
                have n1 := lv_neT c9_1 (a := 1) (by decide)
                have n2 := lv_neT c9_2 (a := 2) (by decide)
                have n3 := lv_neT c9_3 (a := 3) (by decide)
                have n4 := lv_neT c9_4 (a := 4) (by decide)
                have n5 := lv_neT c9_5 (a := 5) (by decide)
                refine sx_tblOut (tgt := 88) dX6_rate_12 (by omega) (by decide) ?_
                refine sx_ldc (v := (-1000000 : Int32)) dX6_rate_88 gw_682 ?_
                obtain rfl := Option.some.inj h
                exact sx_iret dX6_rate_90 rfl hk9
  · replace h := sx_ip h c9
    refine sx_ldc (v := (-1000000 : Int32)) dX6_rate_8 gw_682 ?_
    obtain rfl := Option.some.inj h
    exact sx_iret dX6_rate_10 rfl hk9
theorem F6_rate_ck (l : Launch)  (v1 : Int32) (v2 : Int32) (q : SQ) {r : Int32 × SQ} (h : F6_rate  v1 v2 q = some r) : CK shX vwCl KX tfX l yX6_rate cX6_rate 3 ((some .int)) 4 84 [.ref 0, .int v1, .int v2] q (some (.int r.1)) r.2 :=
  CK.of mi_X6_rate (Nat.le_of_ble_eq_true rfl) (F6_rate_ok l  v1 v2 q h ⟨rfl, rfl⟩)
theorem mi_X6_imageOf : sx_MI yX6_imageOf cX6_imageOf 2 ((some (.object "StarChart$Image"))) 1 := ⟨by decide, ⟨by decide, by decide, by decide +kernel⟩, gw_763, gw_60⟩
abbrev PF6_imageOf (l : Launch) (Q : Option Value → SQ → Prop) : Nat → List (Nat × Value) → List Value → SQ → Prop := XX shX vwCl KX tfX l RX6 cX6_imageOf 2 ((some (.object "StarChart$Image"))) { frames := 0, cells := 0, slots := 0, locals := 0 } Q
def F6_imageOf  (v1 : Int32) (q : SQ) : Option (Nat × SQ) :=
  (if v1 = 0 then some (24, q) else some (29, q))
set_option maxHeartbeats 400000 in
theorem F6_imageOf_ok (l : Launch)  {Q : Option Value → SQ → Prop} (v1 : Int32) (q : SQ) {res : Nat × SQ} (h : F6_imageOf  v1 q = some res) (hk9 : Q (some (.ref res.1)) res.2) : PF6_imageOf l Q 0 [(0, .ref 0), (1, .int v1)] [] q := by
  unfold F6_imageOf at h
  refine sx_iload_n dX6_imageOf_0 rfl rfl ?_
  refine sx_if_ne (tgt := 11) dX6_imageOf_1 (by decide) (fun c9 => ?_) (fun c9 => ?_)
  · replace h := sx_in h c9
    refine sx_aload_n dX6_imageOf_11 rfl rfl ?_
    refine sx_getR dX6_imageOf_12 (hs := shX_0) (k9 := 5) (hf := rfl) cb_X6 ⟨by decide, rfl, gw_297⟩ ?_
    obtain rfl := Option.some.inj h
    exact sx_aret dX6_imageOf_15 rfl hk9
  · replace h := sx_ip h c9
    refine sx_aload_n dX6_imageOf_4 rfl rfl ?_
    refine sx_getR dX6_imageOf_5 (hs := shX_0) (k9 := 4) (hf := rfl) cb_X6 ⟨by decide, rfl, gw_296⟩ ?_
    refine sx_goto (tgt := 15) dX6_imageOf_8 (by decide) ?_
    obtain rfl := Option.some.inj h
    exact sx_aret dX6_imageOf_15 rfl hk9
theorem F6_imageOf_ck (l : Launch)  (v1 : Int32) (q : SQ) {r : Nat × SQ} (h : F6_imageOf  v1 q = some r) : CK shX vwCl KX tfX l yX6_imageOf cX6_imageOf 2 ((some (.object "StarChart$Image"))) 0 0 [.ref 0, .int v1] q (some (.ref r.1)) r.2 :=
  CK.of mi_X6_imageOf (Nat.le_of_ble_eq_true rfl) (F6_imageOf_ok l  v1 q h ⟨rfl, rfl⟩)
theorem mi_X0_copyOf : sx_MI yX0_copyOf cX0_copyOf 2 (none) 1 := ⟨by decide, ⟨by decide, by decide, by decide +kernel⟩, gw_767, gw_63⟩
abbrev PF0_copyOf (l : Launch) (Q : Option Value → SQ → Prop) : Nat → List (Nat × Value) → List Value → SQ → Prop := XX shX vwCl KX tfX l RX0 cX0_copyOf 2 (none) { frames := 1, cells := 0, slots := 0, locals := 40 } Q
def F0_copyOf (k : Nat) (r1 : Nat)  (q : SQ) : Option (Unit × SQ) :=
  sx_let (sI q k 0 (gI q r1 0)) (fun q1 => sx_let (sI q1 k 1 (gI q1 r1 1)) (fun q2 => sx_let (sA q2 (k + 1) (va_cpy (q2.1 (r1 + 1)) (q2.1 (k + 1)) 0 0 8)) (fun q3 => sx_let (sA q3 (k + 2) (va_cpy (q3.1 (r1 + 2)) (q3.1 (k + 2)) 0 0 8)) (fun q4 => sx_let (sA q4 (k + 3) (va_cpy (q4.1 (r1 + 3)) (q4.1 (k + 3)) 0 0 8)) (fun q5 => some ((), q5))))))
set_option maxHeartbeats 400000 in
theorem F0_copyOf_ok (l : Launch) (k : Nat) (hk : iCo k) (r1 : Nat) (hr1 : iCo r1) {Q : Option Value → SQ → Prop}  (q : SQ) {res : Unit × SQ} (h : F0_copyOf k r1  q = some res) (hk9 : Q none res.2) : PF0_copyOf l Q 0 [(0, .ref k), (1, .ref r1)] [] q := by
  unfold F0_copyOf at h
  refine sx_aload_n dX0_copyOf_0 rfl rfl ?_
  refine sx_aload_n dX0_copyOf_1 rfl rfl ?_
  refine sx_getI dX0_copyOf_2 (hs := hr1.1) (k9 := 0) (hf := rfl) cb_X0 ⟨by decide, rfl, gw_185⟩ ?_
  obtain ⟨q1, eq1, h⟩ := sx_lt h
  refine sx_putI dX0_copyOf_5 (hs := hk.1) (k9 := 0) (hf := rfl) cb_X0 ⟨by decide, rfl, gw_185⟩ rfl (by decide) ?_
  refine sx_nmQ eq1 ?_
  refine sx_aload_n dX0_copyOf_8 rfl rfl ?_
  refine sx_aload_n dX0_copyOf_9 rfl rfl ?_
  refine sx_getI dX0_copyOf_10 (hs := hr1.1) (k9 := 1) (hf := rfl) cb_X0 ⟨by decide, rfl, gw_187⟩ ?_
  obtain ⟨q2, eq2, h⟩ := sx_lt h
  refine sx_putI dX0_copyOf_13 (hs := hk.1) (k9 := 1) (hf := rfl) cb_X0 ⟨by decide, rfl, gw_187⟩ rfl (by decide) ?_
  refine sx_nmQ eq2 ?_
  refine sx_aload_n dX0_copyOf_16 rfl rfl ?_
  refine sx_getR dX0_copyOf_17 (hs := hr1.1) (k9 := 2) (hf := rfl) cb_X0 ⟨by decide, rfl, gw_189⟩ ?_
  refine sx_iconst (v := (0 : Int32)) dX0_copyOf_20 (by decide) ?_
  refine sx_aload_n dX0_copyOf_21 rfl rfl ?_
  refine sx_getR dX0_copyOf_22 (hs := hk.1) (k9 := 2) (hf := rfl) cb_X0 ⟨by decide, rfl, gw_189⟩ ?_
  refine sx_iconst (v := (0 : Int32)) dX0_copyOf_25 (by decide) ?_
  refine sx_bipush (v := (8 : Int32)) dX0_copyOf_26 (by decide) ?_
  obtain ⟨q3, eq3, h⟩ := sx_lt h
  refine sx_copyC (n9 := 8) dX0_copyOf_28 gw_768 gw_copy hr1.2.1 hk.2.1 (fun _ _ => rfl) (by decide) (by decide) (by decide) (by decide) (Nat.le_of_ble_eq_true rfl) (Nat.le_of_ble_eq_true rfl) ?_
  refine sx_nmQ eq3 ?_
  refine sx_aload_n dX0_copyOf_31 rfl rfl ?_
  refine sx_getR dX0_copyOf_32 (hs := hr1.1) (k9 := 3) (hf := rfl) cb_X0 ⟨by decide, rfl, gw_191⟩ ?_
  refine sx_iconst (v := (0 : Int32)) dX0_copyOf_35 (by decide) ?_
  refine sx_aload_n dX0_copyOf_36 rfl rfl ?_
  refine sx_getR dX0_copyOf_37 (hs := hk.1) (k9 := 3) (hf := rfl) cb_X0 ⟨by decide, rfl, gw_191⟩ ?_
  refine sx_iconst (v := (0 : Int32)) dX0_copyOf_40 (by decide) ?_
  refine sx_bipush (v := (8 : Int32)) dX0_copyOf_41 (by decide) ?_
  obtain ⟨q4, eq4, h⟩ := sx_lt h
  refine sx_copyC (n9 := 8) dX0_copyOf_43 gw_768 gw_copy hr1.2.2.1 hk.2.2.1 (fun _ _ => rfl) (by decide) (by decide) (by decide) (by decide) (Nat.le_of_ble_eq_true rfl) (Nat.le_of_ble_eq_true rfl) ?_
  refine sx_nmQ eq4 ?_
  refine sx_aload_n dX0_copyOf_46 rfl rfl ?_
  refine sx_getR dX0_copyOf_47 (hs := hr1.1) (k9 := 4) (hf := rfl) cb_X0 ⟨by decide, rfl, gw_193⟩ ?_
  refine sx_iconst (v := (0 : Int32)) dX0_copyOf_50 (by decide) ?_
  refine sx_aload_n dX0_copyOf_51 rfl rfl ?_
  refine sx_getR dX0_copyOf_52 (hs := hk.1) (k9 := 4) (hf := rfl) cb_X0 ⟨by decide, rfl, gw_193⟩ ?_
  refine sx_iconst (v := (0 : Int32)) dX0_copyOf_55 (by decide) ?_
  refine sx_bipush (v := (8 : Int32)) dX0_copyOf_56 (by decide) ?_
  obtain ⟨q5, eq5, h⟩ := sx_lt h
  refine sx_copyC (n9 := 8) dX0_copyOf_58 gw_768 gw_copy hr1.2.2.2 hk.2.2.2 (fun _ _ => rfl) (by decide) (by decide) (by decide) (by decide) (Nat.le_of_ble_eq_true rfl) (Nat.le_of_ble_eq_true rfl) ?_
  refine sx_nmQ eq5 ?_
  obtain rfl := Option.some.inj h
  exact sx_vret dX0_copyOf_61 rfl hk9
theorem F0_copyOf_ck (l : Launch) (k : Nat) (hk : iCo k) (r1 : Nat) (hr1 : iCo r1)  (q : SQ) {r : Unit × SQ} (h : F0_copyOf k r1  q = some r) : CK shX vwCl KX tfX l yX0_copyOf cX0_copyOf 2 (none) 1 40 [.ref k, .ref r1] q none r.2 :=
  CK.of mi_X0_copyOf (Nat.le_of_ble_eq_true rfl) (F0_copyOf_ok l k hk r1 hr1  q h ⟨rfl, rfl⟩)
theorem mi_X6_keep : sx_MI yX6_keep cX6_keep 3 ((some .int)) 1 := ⟨by decide, ⟨by decide, by decide, by decide +kernel⟩, gw_759, gw_60⟩
abbrev PF6_keep (l : Launch) (Q : Option Value → SQ → Prop) : Nat → List (Nat × Value) → List Value → SQ → Prop := XX shX vwCl KX tfX l RX6 cX6_keep 3 ((some .int)) { frames := 2, cells := 0, slots := 0, locals := 61 } Q
def F6_keep  (v1 : Int32) (q : SQ) : Option (Int32 × SQ) :=
  (F6_within  v1 (0 : Int32) (1 : Int32) q).bind (fun z1 => (if z1.1 = 0 then some ((-1 : Int32), z1.2) else (F6_imageOf  v1 z1.2).bind (fun z2 => (if z2.1 = 24 ∨ z2.1 = 29 then sx_let z2.1 (fun r3 => sx_let (sI z2.2 r3 0 (1 : Int32)) (fun q4 => sx_let (sI q4 r3 1 (gI q4 0 10)) (fun q5 => (F0_copyOf (r3 + 1) 19  q5).bind (fun z6 => some (gI z6.2 19 0, z6.2))))) else none))))
set_option maxHeartbeats 400000 in
theorem F6_keep_ok (l : Launch)  {Q : Option Value → SQ → Prop} (v1 : Int32) (q : SQ) {res : Int32 × SQ} (h : F6_keep  v1 q = some res) (hk9 : Q (some (.int res.1)) res.2) : PF6_keep l Q 0 [(0, .ref 0), (1, .int v1)] [] q := by
  unfold F6_keep at h
  refine sx_iload_n dX6_keep_0 rfl rfl ?_
  refine sx_iconst (v := (0 : Int32)) dX6_keep_1 (by decide) ?_
  refine sx_iconst (v := (1 : Int32)) dX6_keep_2 (by decide) ?_
  obtain ⟨z1, hz1, h⟩ := sx_bd h
  refine sx_callS (As := [.int v1, .int (0 : Int32), .int (1 : Int32)]) (rest := []) KSX (F6_within_ck l  v1 (0 : Int32) (1 : Int32) q hz1) mi_X6_within gw_333 rfl gw_334 ⟨Nat.le_of_ble_eq_true rfl, Nat.le_of_ble_eq_true rfl⟩ (Nat.le_of_ble_eq_true rfl) dX6_keep_3 rfl ?_
  refine sx_if_ne (tgt := 11) dX6_keep_6 (by decide) (fun c9 => ?_) (fun c9 => ?_)
  · replace h := sx_in h c9
    refine sx_aload_n dX6_keep_11 rfl rfl ?_
    refine sx_iload_n dX6_keep_12 rfl rfl ?_
    obtain ⟨z2, hz2, h⟩ := sx_bd h
    refine sx_callV (o := 0) (As := [.int v1]) (rest := []) KSX (F6_imageOf_ck l  v1 z1.2 hz2) mi_X6_imageOf gw_760 rfl ⟨gw_762, gw_29⟩ shX_0 rfl rfl ⟨Nat.le_of_ble_eq_true rfl, Nat.le_of_ble_eq_true rfl⟩ (Nat.le_of_ble_eq_true rfl) dX6_keep_13 rfl ?_
    obtain ⟨gr3, h⟩ := sx_gd h
    obtain ⟨r3, er3, h⟩ := sx_lt h
    rw [← er3] at gr3
    refine sx_nmR er3 ?_
    refine sx_astore_n (ls2 := [(2, .ref r3), (0, .ref 0), (1, .int v1)]) dX6_keep_16 rfl (by decide) rfl ?_
    refine sx_aload_n dX6_keep_17 rfl rfl ?_
    refine sx_iconst (v := (1 : Int32)) dX6_keep_18 (by decide) ?_
    obtain ⟨q4, eq4, h⟩ := sx_lt h
    refine sx_putZ dX6_keep_19 (hs := (iIm_of gr3).1) (k9 := 0) (hf := rfl) cb_X1 ⟨by decide, rfl, gw_215⟩ rfl (by decide) (by decide) ?_
    refine sx_nmQ eq4 ?_
    refine sx_aload_n dX6_keep_22 rfl rfl ?_
    refine sx_aload_n dX6_keep_23 rfl rfl ?_
    refine sx_getI dX6_keep_24 (hs := shX_0) (k9 := 10) (hf := rfl) cb_X6 ⟨by decide, rfl, gw_302⟩ ?_
    obtain ⟨q5, eq5, h⟩ := sx_lt h
    refine sx_putI dX6_keep_27 (hs := (iIm_of gr3).1) (k9 := 1) (hf := rfl) cb_X1 ⟨by decide, rfl, gw_217⟩ rfl (by decide) ?_
    refine sx_nmQ eq5 ?_
    refine sx_aload_n dX6_keep_30 rfl rfl ?_
    refine sx_getR dX6_keep_31 (hs := (iIm_of gr3).1) (k9 := 2) (hf := rfl) cb_X1 ⟨by decide, rfl, gw_219⟩ ?_
    refine sx_aload_n dX6_keep_34 rfl rfl ?_
    refine sx_getR dX6_keep_35 (hs := shX_0) (k9 := 2) (hf := rfl) cb_X6 ⟨by decide, rfl, gw_294⟩ ?_
    obtain ⟨z6, hz6, h⟩ := sx_bd h
    refine sx_callV (o := (r3 + 1)) (As := [.ref 19]) (rest := []) KSX (F0_copyOf_ck l (r3 + 1) (iIm_of gr3).2 19 iCo_19  q5 hz6) mi_X0_copyOf gw_764 rfl ⟨gw_765, gw_766⟩ (iIm_of gr3).2.1 rfl rfl ⟨Nat.le_of_ble_eq_true rfl, Nat.le_of_ble_eq_true rfl⟩ (Nat.le_of_ble_eq_true rfl) dX6_keep_38 rfl ?_
    refine sx_aload_n dX6_keep_41 rfl rfl ?_
    refine sx_getR dX6_keep_42 (hs := shX_0) (k9 := 2) (hf := rfl) cb_X6 ⟨by decide, rfl, gw_294⟩ ?_
    refine sx_getI dX6_keep_45 (hs := shX_19) (k9 := 0) (hf := rfl) cb_X0 ⟨by decide, rfl, gw_186⟩ ?_
    obtain rfl := Option.some.inj h
    exact sx_iret dX6_keep_48 rfl hk9
  · replace h := sx_ip h c9
    refine sx_iconst (v := (-1 : Int32)) dX6_keep_9 (by decide) ?_
    obtain rfl := Option.some.inj h
    exact sx_iret dX6_keep_10 rfl hk9
theorem F6_keep_ck (l : Launch)  (v1 : Int32) (q : SQ) {r : Int32 × SQ} (h : F6_keep  v1 q = some r) : CK shX vwCl KX tfX l yX6_keep cX6_keep 3 ((some .int)) 2 61 [.ref 0, .int v1] q (some (.int r.1)) r.2 :=
  CK.of mi_X6_keep (Nat.le_of_ble_eq_true rfl) (F6_keep_ok l  v1 q h ⟨rfl, rfl⟩)
theorem mi_X6_back : sx_MI yX6_back cX6_back 3 ((some .int)) 1 := ⟨by decide, ⟨by decide, by decide, by decide +kernel⟩, gw_772, gw_60⟩
abbrev PF6_back (l : Launch) (Q : Option Value → SQ → Prop) : Nat → List (Nat × Value) → List Value → SQ → Prop := XX shX vwCl KX tfX l RX6 cX6_back 3 ((some .int)) { frames := 2, cells := 0, slots := 0, locals := 61 } Q
def F6_back  (v1 : Int32) (q : SQ) : Option (Int32 × SQ) :=
  (F6_within  v1 (0 : Int32) (1 : Int32) q).bind (fun z1 => (if z1.1 = 0 then some ((-1 : Int32), z1.2) else (F6_imageOf  v1 z1.2).bind (fun z2 => (if z2.1 = 24 ∨ z2.1 = 29 then sx_let z2.1 (fun r3 => (if gI z2.2 r3 0 = 0 then some ((-2 : Int32), z2.2) else sx_let (sI z2.2 0 10 (gI z2.2 r3 1)) (fun q4 => (F0_copyOf 19 (r3 + 1)  q4).bind (fun z5 => some (gI z5.2 19 0, z5.2))))) else none))))
set_option maxHeartbeats 400000 in
theorem F6_back_ok (l : Launch)  {Q : Option Value → SQ → Prop} (v1 : Int32) (q : SQ) {res : Int32 × SQ} (h : F6_back  v1 q = some res) (hk9 : Q (some (.int res.1)) res.2) : PF6_back l Q 0 [(0, .ref 0), (1, .int v1)] [] q := by
  unfold F6_back at h
  refine sx_iload_n dX6_back_0 rfl rfl ?_
  refine sx_iconst (v := (0 : Int32)) dX6_back_1 (by decide) ?_
  refine sx_iconst (v := (1 : Int32)) dX6_back_2 (by decide) ?_
  obtain ⟨z1, hz1, h⟩ := sx_bd h
  refine sx_callS (As := [.int v1, .int (0 : Int32), .int (1 : Int32)]) (rest := []) KSX (F6_within_ck l  v1 (0 : Int32) (1 : Int32) q hz1) mi_X6_within gw_333 rfl gw_334 ⟨Nat.le_of_ble_eq_true rfl, Nat.le_of_ble_eq_true rfl⟩ (Nat.le_of_ble_eq_true rfl) dX6_back_3 rfl ?_
  refine sx_if_ne (tgt := 11) dX6_back_6 (by decide) (fun c9 => ?_) (fun c9 => ?_)
  · replace h := sx_in h c9
    refine sx_aload_n dX6_back_11 rfl rfl ?_
    refine sx_iload_n dX6_back_12 rfl rfl ?_
    obtain ⟨z2, hz2, h⟩ := sx_bd h
    refine sx_callV (o := 0) (As := [.int v1]) (rest := []) KSX (F6_imageOf_ck l  v1 z1.2 hz2) mi_X6_imageOf gw_760 rfl ⟨gw_762, gw_29⟩ shX_0 rfl rfl ⟨Nat.le_of_ble_eq_true rfl, Nat.le_of_ble_eq_true rfl⟩ (Nat.le_of_ble_eq_true rfl) dX6_back_13 rfl ?_
    obtain ⟨gr3, h⟩ := sx_gd h
    obtain ⟨r3, er3, h⟩ := sx_lt h
    rw [← er3] at gr3
    refine sx_nmR er3 ?_
    refine sx_astore_n (ls2 := [(2, .ref r3), (0, .ref 0), (1, .int v1)]) dX6_back_16 rfl (by decide) rfl ?_
    refine sx_aload_n dX6_back_17 rfl rfl ?_
    refine sx_getI dX6_back_18 (hs := (iIm_of gr3).1) (k9 := 0) (hf := rfl) cb_X1 ⟨by decide, rfl, gw_215⟩ ?_
    refine sx_if_ne (tgt := 27) dX6_back_21 (by decide) (fun c9 => ?_) (fun c9 => ?_)
    · replace h := sx_in h c9
      refine sx_aload_n dX6_back_27 rfl rfl ?_
      refine sx_aload_n dX6_back_28 rfl rfl ?_
      refine sx_getI dX6_back_29 (hs := (iIm_of gr3).1) (k9 := 1) (hf := rfl) cb_X1 ⟨by decide, rfl, gw_217⟩ ?_
      obtain ⟨q4, eq4, h⟩ := sx_lt h
      refine sx_putI dX6_back_32 (hs := shX_0) (k9 := 10) (hf := rfl) cb_X6 ⟨by decide, rfl, gw_302⟩ rfl (by decide) ?_
      refine sx_nmQ eq4 ?_
      refine sx_aload_n dX6_back_35 rfl rfl ?_
      refine sx_getR dX6_back_36 (hs := shX_0) (k9 := 2) (hf := rfl) cb_X6 ⟨by decide, rfl, gw_294⟩ ?_
      refine sx_aload_n dX6_back_39 rfl rfl ?_
      refine sx_getR dX6_back_40 (hs := (iIm_of gr3).1) (k9 := 2) (hf := rfl) cb_X1 ⟨by decide, rfl, gw_219⟩ ?_
      obtain ⟨z5, hz5, h⟩ := sx_bd h
      refine sx_callV (o := 19) (As := [.ref (r3 + 1)]) (rest := []) KSX (F0_copyOf_ck l 19 iCo_19 (r3 + 1) (iIm_of gr3).2  q4 hz5) mi_X0_copyOf gw_764 rfl ⟨gw_765, gw_766⟩ shX_19 rfl rfl ⟨Nat.le_of_ble_eq_true rfl, Nat.le_of_ble_eq_true rfl⟩ (Nat.le_of_ble_eq_true rfl) dX6_back_43 rfl ?_
      refine sx_aload_n dX6_back_46 rfl rfl ?_
      refine sx_getR dX6_back_47 (hs := shX_0) (k9 := 2) (hf := rfl) cb_X6 ⟨by decide, rfl, gw_294⟩ ?_
      refine sx_getI dX6_back_50 (hs := shX_19) (k9 := 0) (hf := rfl) cb_X0 ⟨by decide, rfl, gw_186⟩ ?_
      obtain rfl := Option.some.inj h
      exact sx_iret dX6_back_53 rfl hk9
    · replace h := sx_ip h c9
      refine sx_bipush (v := (-2 : Int32)) dX6_back_24 (by decide) ?_
      obtain rfl := Option.some.inj h
      exact sx_iret dX6_back_26 rfl hk9
  · replace h := sx_ip h c9
    refine sx_iconst (v := (-1 : Int32)) dX6_back_9 (by decide) ?_
    obtain rfl := Option.some.inj h
    exact sx_iret dX6_back_10 rfl hk9
theorem F6_back_ck (l : Launch)  (v1 : Int32) (q : SQ) {r : Int32 × SQ} (h : F6_back  v1 q = some r) : CK shX vwCl KX tfX l yX6_back cX6_back 3 ((some .int)) 2 61 [.ref 0, .int v1] q (some (.int r.1)) r.2 :=
  CK.of mi_X6_back (Nat.le_of_ble_eq_true rfl) (F6_back_ok l  v1 q h ⟨rfl, rfl⟩)
theorem mi_X6_count : sx_MI yX6_count cX6_count 2 ((some .int)) 1 := ⟨by decide, ⟨by decide, by decide, by decide +kernel⟩, gw_776, gw_60⟩
abbrev PF6_count (l : Launch) (Q : Option Value → SQ → Prop) : Nat → List (Nat × Value) → List Value → SQ → Prop := XX shX vwCl KX tfX l RX6 cX6_count 2 ((some .int)) { frames := 0, cells := 0, slots := 0, locals := 0 } Q
def F6_count  (v1 : Int32) (q : SQ) : Option (Int32 × SQ) :=
  (if v1 = (0 : Int32) then some (gI q 1 0, q) else (if v1 = (1 : Int32) then some (gI q 1 1, q) else (if v1 = (2 : Int32) then some (gI q 34 0, q) else (if v1 = (3 : Int32) then some (gI q 8 0, q) else some ((-1 : Int32), q)))))
set_option maxHeartbeats 400000 in
theorem F6_count_ok (l : Launch)  {Q : Option Value → SQ → Prop} (v1 : Int32) (q : SQ) {res : Int32 × SQ} (h : F6_count  v1 q = some res) (hk9 : Q (some (.int res.1)) res.2) : PF6_count l Q 0 [(0, .ref 0), (1, .int v1)] [] q := by
  unfold F6_count at h
  refine sx_iload_n dX6_count_0 rfl rfl ?_
  by_cases c9_0 : v1 = (0 : Int32)
  · replace h := sx_ip h c9_0
    refine sx_tblIn (tgt := 32) dX6_count_1 (by rw [c9_0]; decide) (by rw [c9_0]; decide) (by rw [c9_0]; rfl) (by decide) ?_
    refine sx_aload_n dX6_count_32 rfl rfl ?_
    refine sx_getR dX6_count_33 (hs := shX_0) (k9 := 0) (hf := rfl) cb_X6 ⟨by decide, rfl, gw_292⟩ ?_
    refine sx_getI dX6_count_36 (hs := shX_1) (k9 := 0) (hf := rfl) cb_X4 ⟨by decide, rfl, gw_90⟩ ?_
    obtain rfl := Option.some.inj h
    exact sx_iret dX6_count_39 rfl hk9
  · replace h := sx_in h c9_0
    by_cases c9_1 : v1 = (1 : Int32)
    · replace h := sx_ip h c9_1
      refine sx_tblIn (tgt := 40) dX6_count_1 (by rw [c9_1]; decide) (by rw [c9_1]; decide) (by rw [c9_1]; rfl) (by decide) ?_
      refine sx_aload_n dX6_count_40 rfl rfl ?_
      refine sx_getR dX6_count_41 (hs := shX_0) (k9 := 0) (hf := rfl) cb_X6 ⟨by decide, rfl, gw_292⟩ ?_
      refine sx_getI dX6_count_44 (hs := shX_1) (k9 := 1) (hf := rfl) cb_X4 ⟨by decide, rfl, gw_95⟩ ?_
      obtain rfl := Option.some.inj h
      exact sx_iret dX6_count_47 rfl hk9
    · replace h := sx_in h c9_1
      by_cases c9_2 : v1 = (2 : Int32)
      · replace h := sx_ip h c9_2
        refine sx_tblIn (tgt := 48) dX6_count_1 (by rw [c9_2]; decide) (by rw [c9_2]; decide) (by rw [c9_2]; rfl) (by decide) ?_
        refine sx_aload_n dX6_count_48 rfl rfl ?_
        refine sx_getR dX6_count_49 (hs := shX_0) (k9 := 6) (hf := rfl) cb_X6 ⟨by decide, rfl, gw_298⟩ ?_
        refine sx_getI dX6_count_52 (hs := shX_34) (k9 := 0) (hf := rfl) cb_X5 ⟨by decide, rfl, gw_234⟩ ?_
        obtain rfl := Option.some.inj h
        exact sx_iret dX6_count_55 rfl hk9
      · replace h := sx_in h c9_2
        by_cases c9_3 : v1 = (3 : Int32)
        · replace h := sx_ip h c9_3
          refine sx_tblIn (tgt := 56) dX6_count_1 (by rw [c9_3]; decide) (by rw [c9_3]; decide) (by rw [c9_3]; rfl) (by decide) ?_
          refine sx_aload_n dX6_count_56 rfl rfl ?_
          refine sx_getR dX6_count_57 (hs := shX_0) (k9 := 1) (hf := rfl) cb_X6 ⟨by decide, rfl, gw_293⟩ ?_
          refine sx_getI dX6_count_60 (hs := shX_8) (k9 := 0) (hf := rfl) cb_X3 ⟨by decide, rfl, gw_156⟩ ?_
          obtain rfl := Option.some.inj h
          exact sx_iret dX6_count_63 rfl hk9
        · replace h := sx_in h c9_3
          have n0 := lv_neT c9_0 (a := 0) (by decide)
          have n1 := lv_neT c9_1 (a := 1) (by decide)
          have n2 := lv_neT c9_2 (a := 2) (by decide)
          have n3 := lv_neT c9_3 (a := 3) (by decide)
          refine sx_tblOut (tgt := 64) dX6_count_1 (by omega) (by decide) ?_
          refine sx_iconst (v := (-1 : Int32)) dX6_count_64 (by decide) ?_
          obtain rfl := Option.some.inj h
          exact sx_iret dX6_count_65 rfl hk9
theorem F6_count_ck (l : Launch)  (v1 : Int32) (q : SQ) {r : Int32 × SQ} (h : F6_count  v1 q = some r) : CK shX vwCl KX tfX l yX6_count cX6_count 2 ((some .int)) 0 0 [.ref 0, .int v1] q (some (.int r.1)) r.2 :=
  CK.of mi_X6_count (Nat.le_of_ble_eq_true rfl) (F6_count_ok l  v1 q h ⟨rfl, rfl⟩)
theorem mi_X6_trace : sx_MI yX6_trace cX6_trace 1 ((some .long)) 0 := ⟨by decide, ⟨by decide, by decide, by decide +kernel⟩, gw_780, gw_60⟩
abbrev PF6_trace (l : Launch) (Q : Option Value → SQ → Prop) : Nat → List (Nat × Value) → List Value → SQ → Prop := XX shX vwCl KX tfX l RX6 cX6_trace 1 ((some .long)) { frames := 0, cells := 0, slots := 0, locals := 0 } Q
def F6_trace   (q : SQ) : Option (Int64 × SQ) :=
  some (gL q 0 11, q)
set_option maxHeartbeats 400000 in
theorem F6_trace_ok (l : Launch)  {Q : Option Value → SQ → Prop}  (q : SQ) {res : Int64 × SQ} (h : F6_trace   q = some res) (hk9 : Q (some (.long res.1)) res.2) : PF6_trace l Q 0 [(0, .ref 0)] [] q := by
  unfold F6_trace at h
  refine sx_aload_n dX6_trace_0 rfl rfl ?_
  refine sx_getL dX6_trace_1 (hs := shX_0) (k9 := 11) (hf := rfl) cb_X6 ⟨by decide, rfl, gw_303⟩ ?_
  obtain rfl := Option.some.inj h
  exact sx_lret dX6_trace_4 rfl hk9
theorem F6_trace_ck (l : Launch)   (q : SQ) {r : Int64 × SQ} (h : F6_trace   q = some r) : CK shX vwCl KX tfX l yX6_trace cX6_trace 1 ((some .long)) 0 0 [.ref 0] q (some (.long r.1)) r.2 :=
  CK.of mi_X6_trace (Nat.le_of_ble_eq_true rfl) (F6_trace_ok l   q h ⟨rfl, rfl⟩)
theorem mi_X7_in : sx_MI yX7_in cX7_in 3 ((some .boolean)) 3 := ⟨by decide, ⟨by decide, by decide, by decide +kernel⟩, gw_867, gw_68⟩
abbrev PF7_in (l : Launch) (Q : Option Value → SQ → Prop) : Nat → List (Nat × Value) → List Value → SQ → Prop := XX shM vwCl KM tfM l RX7 cX7_in 3 ((some .boolean)) { frames := 0, cells := 0, slots := 0, locals := 0 } Q
def F7_in_14   (q : SQ) : Option (Int32 × SQ) :=
  some ((0 : Int32), q)
set_option maxHeartbeats 400000 in
theorem F7_in_14_ok (l : Launch)  {Q : Option Value → SQ → Prop}  (q : SQ) {res : Int32 × SQ} (h : F7_in_14   q = some res) (hk9 : Q (some (.int res.1)) res.2) : PF7_in l Q 14 [] [] q := by
  unfold F7_in_14 at h
  refine sx_iconst (v := (0 : Int32)) dX7_in_14 (by decide) ?_
  obtain rfl := Option.some.inj h
  exact sx_zret dX7_in_15 rfl (by decide) hk9
def F7_in  (v0 : Int32) (v1 : Int32) (v2 : Int32) (q : SQ) : Option (Int32 × SQ) :=
  (if v0 < v1 then F7_in_14   q else (if v2 < v0 then F7_in_14   q else some ((1 : Int32), q)))
set_option maxHeartbeats 400000 in
theorem F7_in_ok (l : Launch)  {Q : Option Value → SQ → Prop} (v0 : Int32) (v1 : Int32) (v2 : Int32) (q : SQ) {res : Int32 × SQ} (h : F7_in  v0 v1 v2 q = some res) (hk9 : Q (some (.int res.1)) res.2) : PF7_in l Q 0 [(0, .int v0), (1, .int v1), (2, .int v2)] [] q := by
  unfold F7_in at h
  refine sx_iload_n dX7_in_0 rfl rfl ?_
  refine sx_iload_n dX7_in_1 rfl rfl ?_
  refine sx_icmp_lt (tgt := 14) dX7_in_2 (by decide) (fun c9 => ?_) (fun c9 => ?_)
  · replace h := sx_ip h c9
    refine sx_locs [] rfl ?_
    exact F7_in_14_ok l   q h hk9
  · replace h := sx_in h c9
    refine sx_iload_n dX7_in_5 rfl rfl ?_
    refine sx_iload_n dX7_in_6 rfl rfl ?_
    refine sx_icmp_gt (tgt := 14) dX7_in_7 (by decide) (fun c9 => ?_) (fun c9 => ?_)
    · replace h := sx_ip h c9
      refine sx_locs [] rfl ?_
      exact F7_in_14_ok l   q h hk9
    · replace h := sx_in h c9
      refine sx_iconst (v := (1 : Int32)) dX7_in_10 (by decide) ?_
      refine sx_goto (tgt := 15) dX7_in_11 (by decide) ?_
      obtain rfl := Option.some.inj h
      exact sx_zret dX7_in_15 rfl (by decide) hk9
theorem F7_in_ck (l : Launch)  (v0 : Int32) (v1 : Int32) (v2 : Int32) (q : SQ) {r : Int32 × SQ} (h : F7_in  v0 v1 v2 q = some r) : CK shM vwCl KM tfM l yX7_in cX7_in 3 ((some .boolean)) 0 0 [.int v0, .int v1, .int v2] q (some (.int r.1)) r.2 :=
  CK.of mi_X7_in (Nat.le_of_ble_eq_true rfl) (F7_in_ok l  v0 v1 v2 q h ⟨rfl, rfl⟩)
theorem mi_X7_type : sx_MI yX7_type cX7_type 5 ((some .int)) 2 := ⟨by decide, ⟨by decide, by decide, by decide +kernel⟩, gw_864, gw_68⟩
abbrev PF7_type (l : Launch) (Q : Option Value → SQ → Prop) : Nat → List (Nat × Value) → List Value → SQ → Prop := XX shM vwCl KM tfM l RX7 cX7_type 5 ((some .int)) { frames := 1, cells := 0, slots := 0, locals := 22 } Q
def F7_type_37b  (v1 : Int64) (v4 : Int32) (q : SQ) : Option ((Int32 × SQ) ⊕ (Int32 × SQ)) :=
  (if v4 < 0 then some (.inr (gI q 0 3, q)) else (if sx_ix (gI q 0 3) 400 = true then sx_let (sI q 1 (gI q 0 3).toNatClampNeg (((v1 >>> (((8 : Int32) * v4).toInt64 &&& 63)) &&& (255 : Int64)).toInt32)) (fun q4 => sx_let (sI q4 0 3 ((gI q4 0 3) + (1 : Int32))) (fun q5 => sx_let (v4 + (-1 : Int32)) (fun x6 => some (.inl (x6, q5))))) else none))
set_option maxHeartbeats 400000 in
theorem F7_type_37b_ok (l : Launch)  {Q : Option Value → SQ → Prop} (v1 : Int64) (v4 : Int32) (q : SQ) {res : (Int32 × SQ) ⊕ (Int32 × SQ)} (h : F7_type_37b  v1 v4 q = some res) (hk9 : (∀ a7, res = .inl a7 → PF7_type l Q 37 [(0, .ref 0), (1, .long v1), (4, .int a7.1)] [] a7.2) ∧ (∀ b8, res = .inr b8 → Q (some (.int b8.1)) b8.2)) : PF7_type l Q 37 [(0, .ref 0), (1, .long v1), (4, .int v4)] [] q := by
  unfold F7_type_37b at h
  refine sx_iload dX7_type_37 rfl ?_
  refine sx_if_lt (tgt := 79) dX7_type_39 (by decide) (fun c9 => ?_) (fun c9 => ?_)
  · replace h := sx_ip h c9
    refine sx_aload_n dX7_type_79 rfl rfl ?_
    refine sx_getI dX7_type_80 (hs := shM_0) (k9 := 3) (hf := rfl) cb_X7 ⟨by decide, rfl, gw_802⟩ ?_
    have hk9 := hk9.2 _ (Option.some.inj h).symm
    exact sx_iret dX7_type_83 rfl hk9
  · replace h := sx_in h c9
    refine sx_aload_n dX7_type_42 rfl rfl ?_
    refine sx_getR dX7_type_43 (hs := shM_0) (k9 := 2) (hf := rfl) cb_X7 ⟨by decide, rfl, gw_801⟩ ?_
    refine sx_aload_n dX7_type_46 rfl rfl ?_
    refine sx_getI dX7_type_47 (hs := shM_0) (k9 := 3) (hf := rfl) cb_X7 ⟨by decide, rfl, gw_802⟩ ?_
    refine sx_lload_n dX7_type_50 rfl rfl ?_
    refine sx_bipush (v := (8 : Int32)) dX7_type_51 (by decide) ?_
    refine sx_iload dX7_type_53 rfl ?_
    refine sx_imul dX7_type_55 ?_
    refine sx_lshr dX7_type_56 ?_
    refine sx_ldc2 (v := (255 : Int64)) dX7_type_57 gw_868 ?_
    refine sx_land dX7_type_60 ?_
    refine sx_l2i dX7_type_61 ?_
    obtain ⟨g9, h⟩ := sx_gd h
    obtain ⟨q4, eq4, h⟩ := sx_lt h
    refine sx_iast dX7_type_62 shM_1 (fun _ _ => rfl) (sx_ix_in g9) ?_
    refine sx_nmQ eq4 ?_
    refine sx_aload_n dX7_type_63 rfl rfl ?_
    refine sx_dup dX7_type_64 rfl ?_
    refine sx_getI dX7_type_65 (hs := shM_0) (k9 := 3) (hf := rfl) cb_X7 ⟨by decide, rfl, gw_802⟩ ?_
    refine sx_iconst (v := (1 : Int32)) dX7_type_68 (by decide) ?_
    refine sx_iadd dX7_type_69 ?_
    obtain ⟨q5, eq5, h⟩ := sx_lt h
    refine sx_putI dX7_type_70 (hs := shM_0) (k9 := 3) (hf := rfl) cb_X7 ⟨by decide, rfl, gw_802⟩ rfl (by decide) ?_
    refine sx_nmQ eq5 ?_
    obtain ⟨x6, ex6, h⟩ := sx_lt h
    refine sx_iinc (k9 := 2) (v := x6) (ls2 := [(4, .int x6), (0, .ref 0), (1, .long v1)]) dX7_type_73 rfl (by rw [ex6, sx_ofI_m1]) (by decide) rfl ?_
    refine sx_goto (tgt := 37) dX7_type_76 (by decide) ?_
    refine sx_locs [1, 2, 0] rfl ?_
    exact hk9.1 (x6, q5) (Option.some.inj h).symm
def F7_type_37  (v1 : Int64) (v4 : Int32) (q : SQ) : Option (Int32 × SQ) := sx_loop (fun s9 => F7_type_37b  v1 s9.1 s9.2) FU (v4, q)
set_option maxHeartbeats 400000 in
theorem F7_type_37_ok (l : Launch)  {Q : Option Value → SQ → Prop} (v1 : Int64) (v4 : Int32) (q : SQ) {t : Int32 × SQ} (h : F7_type_37  v1 v4 q = some t) (hk9 : Q (some (.int t.1)) t.2) : PF7_type l Q 37 [(0, .ref 0), (1, .long v1), (4, .int v4)] [] q := by
  unfold F7_type_37 at h
  have st : ∀ (s : Int32 × SQ) (res : (Int32 × SQ) ⊕ (Int32 × SQ)), F7_type_37b  v1 s.1 s.2 = some res → (∀ s2, res = .inl s2 → PF7_type l Q 37 [(0, .ref 0), (1, .long v1), (4, .int s2.1)] [] s2.2) → (∀ t2, res = .inr t2 → Q (some (.int t2.1)) t2.2) → PF7_type l Q 37 [(0, .ref 0), (1, .long v1), (4, .int s.1)] [] s.2 :=
    fun s res hb hi ho => F7_type_37b_ok l  v1 s.1 s.2 hb ⟨hi, ho⟩
  have h9 : PF7_type l Q 37 [(0, .ref 0), (1, .long v1), (4, .int v4)] [] q := sx_lp (body := fun s => F7_type_37b  v1 s.1 s.2) (P := fun s => PF7_type l Q 37 [(0, .ref 0), (1, .long v1), (4, .int s.1)] [] s.2) (T := fun t => Q (some (.int t.1)) t.2) st FU (v4, q) t h hk9
  exact h9
def F7_type  (v1 : Int64) (v3 : Int32) (q : SQ) : Option (Int32 × SQ) :=
  sx_let (sI q 0 0 (0 : Int32)) (fun q1 => (F7_in  v3 (1 : Int32) (8 : Int32) q1).bind (fun z2 => (if z2.1 = 0 then some ((-1 : Int32), z2.2) else (if (gI z2.2 0 3) + v3 ≤ (400 : Int32) then sx_let (v3 - (1 : Int32)) (fun x3 => F7_type_37  v1 x3 z2.2) else some ((-3 : Int32), z2.2)))))
set_option maxHeartbeats 400000 in
theorem F7_type_ok (l : Launch)  {Q : Option Value → SQ → Prop} (v1 : Int64) (v3 : Int32) (q : SQ) {res : Int32 × SQ} (h : F7_type  v1 v3 q = some res) (hk9 : Q (some (.int res.1)) res.2) : PF7_type l Q 0 [(0, .ref 0), (1, .long v1), (3, .int v3)] [] q := by
  unfold F7_type at h
  refine sx_aload_n dX7_type_0 rfl rfl ?_
  refine sx_iconst (v := (0 : Int32)) dX7_type_1 (by decide) ?_
  obtain ⟨q1, eq1, h⟩ := sx_lt h
  refine sx_putI dX7_type_2 (hs := shM_0) (k9 := 0) (hf := rfl) cb_X7 ⟨by decide, rfl, gw_799⟩ rfl (by decide) ?_
  refine sx_nmQ eq1 ?_
  refine sx_iload_n dX7_type_5 rfl rfl ?_
  refine sx_iconst (v := (1 : Int32)) dX7_type_6 (by decide) ?_
  refine sx_bipush (v := (8 : Int32)) dX7_type_7 (by decide) ?_
  obtain ⟨z2, hz2, h⟩ := sx_bd h
  refine sx_callS (As := [.int v3, .int (1 : Int32), .int (8 : Int32)]) (rest := []) KSM (F7_in_ck l  v3 (1 : Int32) (8 : Int32) q1 hz2) mi_X7_in gw_865 rfl gw_866 ⟨Nat.le_of_ble_eq_true rfl, Nat.le_of_ble_eq_true rfl⟩ (Nat.le_of_ble_eq_true rfl) dX7_type_9 rfl ?_
  refine sx_if_ne (tgt := 17) dX7_type_12 (by decide) (fun c9 => ?_) (fun c9 => ?_)
  · replace h := sx_in h c9
    refine sx_aload_n dX7_type_17 rfl rfl ?_
    refine sx_getI dX7_type_18 (hs := shM_0) (k9 := 3) (hf := rfl) cb_X7 ⟨by decide, rfl, gw_802⟩ ?_
    refine sx_iload_n dX7_type_21 rfl rfl ?_
    refine sx_iadd dX7_type_22 ?_
    refine sx_sipush (v := (400 : Int32)) dX7_type_23 (by decide) ?_
    refine sx_icmp_le (tgt := 32) dX7_type_26 (by decide) (fun c9 => ?_) (fun c9 => ?_)
    · replace h := sx_ip h c9
      refine sx_iload_n dX7_type_32 rfl rfl ?_
      refine sx_iconst (v := (1 : Int32)) dX7_type_33 (by decide) ?_
      refine sx_isub dX7_type_34 ?_
      obtain ⟨x3, ex3, h⟩ := sx_lt h
      refine sx_nmI ex3 ?_
      refine sx_istore (ls2 := [(4, .int x3), (0, .ref 0), (1, .long v1), (3, .int v3)]) dX7_type_35 (by decide) rfl ?_
      refine sx_locs [1, 2, 0] rfl ?_
      exact F7_type_37_ok l  v1 x3 z2.2 h hk9
    · replace h := sx_in h c9
      refine sx_bipush (v := (-3 : Int32)) dX7_type_29 (by decide) ?_
      obtain rfl := Option.some.inj h
      exact sx_iret dX7_type_31 rfl hk9
  · replace h := sx_ip h c9
    refine sx_iconst (v := (-1 : Int32)) dX7_type_15 (by decide) ?_
    obtain rfl := Option.some.inj h
    exact sx_iret dX7_type_16 rfl hk9
theorem F7_type_ck (l : Launch)  (v1 : Int64) (v3 : Int32) (q : SQ) {r : Int32 × SQ} (h : F7_type  v1 v3 q = some r) : CK shM vwCl KM tfM l yX7_type cX7_type 5 ((some .int)) 1 22 [.ref 0, .long v1, .int v3] q (some (.int r.1)) r.2 :=
  CK.of mi_X7_type (Nat.le_of_ble_eq_true rfl) (F7_type_ok l  v1 v3 q h ⟨rfl, rfl⟩)
theorem mi_X7_clear : sx_MI yX7_clear cX7_clear 2 ((some .int)) 0 := ⟨by decide, ⟨by decide, by decide, by decide +kernel⟩, gw_872, gw_68⟩
abbrev PF7_clear (l : Launch) (Q : Option Value → SQ → Prop) : Nat → List (Nat × Value) → List Value → SQ → Prop := XX shM vwCl KM tfM l RX7 cX7_clear 2 ((some .int)) { frames := 0, cells := 0, slots := 0, locals := 0 } Q
def F7_clear   (q : SQ) : Option (Int32 × SQ) :=
  sx_let (sI q 0 0 (0 : Int32)) (fun q1 => sx_let (gI q1 0 3) (fun x2 => sx_let (sI q1 0 3 (0 : Int32)) (fun q3 => some (x2, q3))))
set_option maxHeartbeats 400000 in
theorem F7_clear_ok (l : Launch)  {Q : Option Value → SQ → Prop}  (q : SQ) {res : Int32 × SQ} (h : F7_clear   q = some res) (hk9 : Q (some (.int res.1)) res.2) : PF7_clear l Q 0 [(0, .ref 0)] [] q := by
  unfold F7_clear at h
  refine sx_aload_n dX7_clear_0 rfl rfl ?_
  refine sx_iconst (v := (0 : Int32)) dX7_clear_1 (by decide) ?_
  obtain ⟨q1, eq1, h⟩ := sx_lt h
  refine sx_putI dX7_clear_2 (hs := shM_0) (k9 := 0) (hf := rfl) cb_X7 ⟨by decide, rfl, gw_799⟩ rfl (by decide) ?_
  refine sx_nmQ eq1 ?_
  refine sx_aload_n dX7_clear_5 rfl rfl ?_
  refine sx_getI dX7_clear_6 (hs := shM_0) (k9 := 3) (hf := rfl) cb_X7 ⟨by decide, rfl, gw_802⟩ ?_
  obtain ⟨x2, ex2, h⟩ := sx_lt h
  refine sx_nmI ex2 ?_
  refine sx_istore_n (ls2 := [(1, .int x2), (0, .ref 0)]) dX7_clear_9 rfl (by decide) rfl ?_
  refine sx_aload_n dX7_clear_10 rfl rfl ?_
  refine sx_iconst (v := (0 : Int32)) dX7_clear_11 (by decide) ?_
  obtain ⟨q3, eq3, h⟩ := sx_lt h
  refine sx_putI dX7_clear_12 (hs := shM_0) (k9 := 3) (hf := rfl) cb_X7 ⟨by decide, rfl, gw_802⟩ rfl (by decide) ?_
  refine sx_nmQ eq3 ?_
  refine sx_iload_n dX7_clear_15 rfl rfl ?_
  obtain rfl := Option.some.inj h
  exact sx_iret dX7_clear_16 rfl hk9
theorem F7_clear_ck (l : Launch)   (q : SQ) {r : Int32 × SQ} (h : F7_clear   q = some r) : CK shM vwCl KM tfM l yX7_clear cX7_clear 2 ((some .int)) 0 0 [.ref 0] q (some (.int r.1)) r.2 :=
  CK.of mi_X7_clear (Nat.le_of_ble_eq_true rfl) (F7_clear_ok l   q h ⟨rfl, rfl⟩)
theorem mi_X7_byteAt : sx_MI yX7_byteAt cX7_byteAt 2 ((some .int)) 1 := ⟨by decide, ⟨by decide, by decide, by decide +kernel⟩, gw_884, gw_68⟩
abbrev PF7_byteAt (l : Launch) (Q : Option Value → SQ → Prop) : Nat → List (Nat × Value) → List Value → SQ → Prop := XX shM vwCl KM tfM l RX7 cX7_byteAt 2 ((some .int)) { frames := 0, cells := 0, slots := 0, locals := 0 } Q
def F7_byteAt  (v1 : Int32) (q : SQ) : Option (Int32 × SQ) :=
  (if gI q 0 3 ≤ v1 then some ((-1 : Int32), q) else (if sx_ix v1 400 = true then some (gI q 1 v1.toNatClampNeg, q) else none))
set_option maxHeartbeats 400000 in
theorem F7_byteAt_ok (l : Launch)  {Q : Option Value → SQ → Prop} (v1 : Int32) (q : SQ) {res : Int32 × SQ} (h : F7_byteAt  v1 q = some res) (hk9 : Q (some (.int res.1)) res.2) : PF7_byteAt l Q 0 [(0, .ref 0), (1, .int v1)] [] q := by
  unfold F7_byteAt at h
  refine sx_iload_n dX7_byteAt_0 rfl rfl ?_
  refine sx_aload_n dX7_byteAt_1 rfl rfl ?_
  refine sx_getI dX7_byteAt_2 (hs := shM_0) (k9 := 3) (hf := rfl) cb_X7 ⟨by decide, rfl, gw_802⟩ ?_
  refine sx_icmp_ge (tgt := 17) dX7_byteAt_5 (by decide) (fun c9 => ?_) (fun c9 => ?_)
  · replace h := sx_ip h c9
    refine sx_iconst (v := (-1 : Int32)) dX7_byteAt_17 (by decide) ?_
    obtain rfl := Option.some.inj h
    exact sx_iret dX7_byteAt_18 rfl hk9
  · replace h := sx_in h c9
    refine sx_aload_n dX7_byteAt_8 rfl rfl ?_
    refine sx_getR dX7_byteAt_9 (hs := shM_0) (k9 := 2) (hf := rfl) cb_X7 ⟨by decide, rfl, gw_801⟩ ?_
    refine sx_iload_n dX7_byteAt_12 rfl rfl ?_
    obtain ⟨g9, h⟩ := sx_gd h
    refine sx_iald dX7_byteAt_13 shM_1 (fun _ _ => rfl) (sx_ix_in g9) ?_
    refine sx_goto (tgt := 18) dX7_byteAt_14 (by decide) ?_
    obtain rfl := Option.some.inj h
    exact sx_iret dX7_byteAt_18 rfl hk9
theorem F7_byteAt_ck (l : Launch)  (v1 : Int32) (q : SQ) {r : Int32 × SQ} (h : F7_byteAt  v1 q = some r) : CK shM vwCl KM tfM l yX7_byteAt cX7_byteAt 2 ((some .int)) 0 0 [.ref 0, .int v1] q (some (.int r.1)) r.2 :=
  CK.of mi_X7_byteAt (Nat.le_of_ble_eq_true rfl) (F7_byteAt_ok l  v1 q h ⟨rfl, rfl⟩)
theorem mi_X7_add : sx_MI yX7_add cX7_add 3 ((some .long)) 2 := ⟨by decide, ⟨by decide, by decide, by decide +kernel⟩, gw_887, gw_68⟩
abbrev PF7_add (l : Launch) (Q : Option Value → SQ → Prop) : Nat → List (Nat × Value) → List Value → SQ → Prop := XX shM vwCl KM tfM l RX7 cX7_add 3 ((some .long)) { frames := 0, cells := 0, slots := 0, locals := 0 } Q
def F7_add  (v0 : Int64) (v2 : Int32) (q : SQ) : Option (Int64 × SQ) :=
  (if v2 = 0 then some (v0, q) else some (((256 : Int64) * v0) + v2.toInt64, q))
set_option maxHeartbeats 400000 in
theorem F7_add_ok (l : Launch)  {Q : Option Value → SQ → Prop} (v0 : Int64) (v2 : Int32) (q : SQ) {res : Int64 × SQ} (h : F7_add  v0 v2 q = some res) (hk9 : Q (some (.long res.1)) res.2) : PF7_add l Q 0 [(0, .long v0), (2, .int v2)] [] q := by
  unfold F7_add at h
  refine sx_iload_n dX7_add_0 rfl rfl ?_
  refine sx_if_ne (tgt := 8) dX7_add_1 (by decide) (fun c9 => ?_) (fun c9 => ?_)
  · replace h := sx_in h c9
    refine sx_ldc2 (v := (256 : Int64)) dX7_add_8 gw_888 ?_
    refine sx_lload_n dX7_add_11 rfl rfl ?_
    refine sx_lmul dX7_add_12 ?_
    refine sx_iload_n dX7_add_13 rfl rfl ?_
    refine sx_i2l dX7_add_14 ?_
    refine sx_ladd dX7_add_15 ?_
    obtain rfl := Option.some.inj h
    exact sx_lret dX7_add_16 rfl hk9
  · replace h := sx_ip h c9
    refine sx_lload_n dX7_add_4 rfl rfl ?_
    refine sx_goto (tgt := 16) dX7_add_5 (by decide) ?_
    obtain rfl := Option.some.inj h
    exact sx_lret dX7_add_16 rfl hk9
theorem F7_add_ck (l : Launch)  (v0 : Int64) (v2 : Int32) (q : SQ) {r : Int64 × SQ} (h : F7_add  v0 v2 q = some r) : CK shM vwCl KM tfM l yX7_add cX7_add 3 ((some .long)) 0 0 [.long v0, .int v2] q (some (.long r.1)) r.2 :=
  CK.of mi_X7_add (Nat.le_of_ble_eq_true rfl) (F7_add_ok l  v0 v2 q h ⟨rfl, rfl⟩)
theorem mi_X7_named : sx_MI yX7_named cX7_named 5 ((some .long)) 5 := ⟨by decide, ⟨by decide, by decide, by decide +kernel⟩, gw_894, gw_68⟩
abbrev PF7_named (l : Launch) (Q : Option Value → SQ → Prop) : Nat → List (Nat × Value) → List Value → SQ → Prop := XX shM vwCl KM tfM l RX7 cX7_named 5 ((some .long)) { frames := 1, cells := 0, slots := 0, locals := 22 } Q
def F7_named  (v0 : Int32) (v1 : Int32) (v2 : Int32) (v3 : Int32) (v4 : Int32) (q : SQ) : Option (Int64 × SQ) :=
  (F7_add  (0 : Int64) v0 q).bind (fun z1 => (F7_add  z1.1 v1 z1.2).bind (fun z2 => (F7_add  z2.1 v2 z2.2).bind (fun z3 => (F7_add  z3.1 v3 z3.2).bind (fun z4 => (F7_add  z4.1 v4 z4.2).bind (fun z5 => some (z5.1, z5.2))))))
set_option maxHeartbeats 400000 in
theorem F7_named_ok (l : Launch)  {Q : Option Value → SQ → Prop} (v0 : Int32) (v1 : Int32) (v2 : Int32) (v3 : Int32) (v4 : Int32) (q : SQ) {res : Int64 × SQ} (h : F7_named  v0 v1 v2 v3 v4 q = some res) (hk9 : Q (some (.long res.1)) res.2) : PF7_named l Q 0 [(0, .int v0), (1, .int v1), (2, .int v2), (3, .int v3), (4, .int v4)] [] q := by
  unfold F7_named at h
  refine sx_lconst (v := (0 : Int64)) dX7_named_0 (by decide) ?_
  refine sx_iload_n dX7_named_1 rfl rfl ?_
  obtain ⟨z1, hz1, h⟩ := sx_bd h
  refine sx_callS (As := [.long (0 : Int64), .int v0]) (rest := []) KSM (F7_add_ck l  (0 : Int64) v0 q hz1) mi_X7_add gw_885 rfl gw_886 ⟨Nat.le_of_ble_eq_true rfl, Nat.le_of_ble_eq_true rfl⟩ (Nat.le_of_ble_eq_true rfl) dX7_named_2 rfl ?_
  refine sx_iload_n dX7_named_5 rfl rfl ?_
  obtain ⟨z2, hz2, h⟩ := sx_bd h
  refine sx_callS (As := [.long z1.1, .int v1]) (rest := []) KSM (F7_add_ck l  z1.1 v1 z1.2 hz2) mi_X7_add gw_885 rfl gw_886 ⟨Nat.le_of_ble_eq_true rfl, Nat.le_of_ble_eq_true rfl⟩ (Nat.le_of_ble_eq_true rfl) dX7_named_6 rfl ?_
  refine sx_iload_n dX7_named_9 rfl rfl ?_
  obtain ⟨z3, hz3, h⟩ := sx_bd h
  refine sx_callS (As := [.long z2.1, .int v2]) (rest := []) KSM (F7_add_ck l  z2.1 v2 z2.2 hz3) mi_X7_add gw_885 rfl gw_886 ⟨Nat.le_of_ble_eq_true rfl, Nat.le_of_ble_eq_true rfl⟩ (Nat.le_of_ble_eq_true rfl) dX7_named_10 rfl ?_
  refine sx_iload_n dX7_named_13 rfl rfl ?_
  obtain ⟨z4, hz4, h⟩ := sx_bd h
  refine sx_callS (As := [.long z3.1, .int v3]) (rest := []) KSM (F7_add_ck l  z3.1 v3 z3.2 hz4) mi_X7_add gw_885 rfl gw_886 ⟨Nat.le_of_ble_eq_true rfl, Nat.le_of_ble_eq_true rfl⟩ (Nat.le_of_ble_eq_true rfl) dX7_named_14 rfl ?_
  refine sx_iload dX7_named_17 rfl ?_
  obtain ⟨z5, hz5, h⟩ := sx_bd h
  refine sx_callS (As := [.long z4.1, .int v4]) (rest := []) KSM (F7_add_ck l  z4.1 v4 z4.2 hz5) mi_X7_add gw_885 rfl gw_886 ⟨Nat.le_of_ble_eq_true rfl, Nat.le_of_ble_eq_true rfl⟩ (Nat.le_of_ble_eq_true rfl) dX7_named_19 rfl ?_
  obtain rfl := Option.some.inj h
  exact sx_lret dX7_named_22 rfl hk9
theorem F7_named_ck (l : Launch)  (v0 : Int32) (v1 : Int32) (v2 : Int32) (v3 : Int32) (v4 : Int32) (q : SQ) {r : Int64 × SQ} (h : F7_named  v0 v1 v2 v3 v4 q = some r) : CK shM vwCl KM tfM l yX7_named cX7_named 5 ((some .long)) 1 22 [.int v0, .int v1, .int v2, .int v3, .int v4] q (some (.long r.1)) r.2 :=
  CK.of mi_X7_named (Nat.le_of_ble_eq_true rfl) (F7_named_ok l  v0 v1 v2 v3 v4 q h ⟨rfl, rfl⟩)
theorem mi_X7_wordOf : sx_MI yX7_wordOf cX7_wordOf 3 ((some .int)) 1 := ⟨by decide, ⟨by decide, by decide, by decide +kernel⟩, gw_891, gw_68⟩
abbrev PF7_wordOf (l : Launch) (Q : Option Value → SQ → Prop) : Nat → List (Nat × Value) → List Value → SQ → Prop := XX shM vwCl KM tfM l RX7 cX7_wordOf 3 ((some .int)) { frames := 2, cells := 0, slots := 0, locals := 46 } Q
def F7_wordOf_66  (v0 : Int64) (s0 : Int32) (q : SQ) : Option (Int32 × SQ) :=
  (if s0 = (-9 : Int32) then (F7_named  (97 : Int32) (102 : Int32) (116 : Int32) (101 : Int32) (114 : Int32) q).bind (fun z4 => (if lg_cmp v0 z4.1 = 0 then some ((3 : Int32), z4.2) else (F7_named  (116 : Int32) (104 : Int32) (105 : Int32) (110 : Int32) (0 : Int32) z4.2).bind (fun z5 => (if lg_cmp v0 z5.1 = 0 then some ((4 : Int32), z5.2) else (F7_named  (112 : Int32) (97 : Int32) (121 : Int32) (0 : Int32) (0 : Int32) z5.2).bind (fun z6 => (if lg_cmp v0 z6.1 = 0 then some ((5 : Int32), z6.2) else some ((-9 : Int32), z6.2))))))) else some (s0, q))
set_option maxHeartbeats 400000 in
theorem F7_wordOf_66_ok (l : Launch)  {Q : Option Value → SQ → Prop} (v0 : Int64) (s0 : Int32) (q : SQ) {res : Int32 × SQ} (h : F7_wordOf_66  v0 s0 q = some res) (hk9 : Q (some (.int res.1)) res.2) : PF7_wordOf l Q 66 [(0, .long v0)] [.int s0] q := by
  unfold F7_wordOf_66 at h
  refine sx_istore_n (ls2 := [(2, .int s0), (0, .long v0)]) dX7_wordOf_66 rfl (by decide) rfl ?_
  refine sx_iload_n dX7_wordOf_67 rfl rfl ?_
  refine sx_bipush (v := (-9 : Int32)) dX7_wordOf_68 (by decide) ?_
  refine sx_icmp_eq (tgt := 77) dX7_wordOf_70 (by decide) (fun c9 => ?_) (fun c9 => ?_)
  · replace h := sx_ip h c9
    refine sx_lload_n dX7_wordOf_77 rfl rfl ?_
    refine sx_bipush (v := (97 : Int32)) dX7_wordOf_78 (by decide) ?_
    refine sx_bipush (v := (102 : Int32)) dX7_wordOf_80 (by decide) ?_
    refine sx_bipush (v := (116 : Int32)) dX7_wordOf_82 (by decide) ?_
    refine sx_bipush (v := (101 : Int32)) dX7_wordOf_84 (by decide) ?_
    refine sx_bipush (v := (114 : Int32)) dX7_wordOf_86 (by decide) ?_
    obtain ⟨z4, hz4, h⟩ := sx_bd h
    refine sx_callS (As := [.int (97 : Int32), .int (102 : Int32), .int (116 : Int32), .int (101 : Int32), .int (114 : Int32)]) (rest := [.long v0]) KSM (F7_named_ck l  (97 : Int32) (102 : Int32) (116 : Int32) (101 : Int32) (114 : Int32) q hz4) mi_X7_named gw_892 rfl gw_893 ⟨Nat.le_of_ble_eq_true rfl, Nat.le_of_ble_eq_true rfl⟩ (Nat.le_of_ble_eq_true rfl) dX7_wordOf_88 rfl ?_
    refine sx_lcmp dX7_wordOf_91 ?_
    refine sx_if_ne (tgt := 99) dX7_wordOf_92 (by decide) (fun c9 => ?_) (fun c9 => ?_)
    · replace h := sx_in h c9
      refine sx_lload_n dX7_wordOf_99 rfl rfl ?_
      refine sx_bipush (v := (116 : Int32)) dX7_wordOf_100 (by decide) ?_
      refine sx_bipush (v := (104 : Int32)) dX7_wordOf_102 (by decide) ?_
      refine sx_bipush (v := (105 : Int32)) dX7_wordOf_104 (by decide) ?_
      refine sx_bipush (v := (110 : Int32)) dX7_wordOf_106 (by decide) ?_
      refine sx_iconst (v := (0 : Int32)) dX7_wordOf_108 (by decide) ?_
      obtain ⟨z5, hz5, h⟩ := sx_bd h
      refine sx_callS (As := [.int (116 : Int32), .int (104 : Int32), .int (105 : Int32), .int (110 : Int32), .int (0 : Int32)]) (rest := [.long v0]) KSM (F7_named_ck l  (116 : Int32) (104 : Int32) (105 : Int32) (110 : Int32) (0 : Int32) z4.2 hz5) mi_X7_named gw_892 rfl gw_893 ⟨Nat.le_of_ble_eq_true rfl, Nat.le_of_ble_eq_true rfl⟩ (Nat.le_of_ble_eq_true rfl) dX7_wordOf_109 rfl ?_
      refine sx_lcmp dX7_wordOf_112 ?_
      refine sx_if_ne (tgt := 120) dX7_wordOf_113 (by decide) (fun c9 => ?_) (fun c9 => ?_)
      · replace h := sx_in h c9
        refine sx_lload_n dX7_wordOf_120 rfl rfl ?_
        refine sx_bipush (v := (112 : Int32)) dX7_wordOf_121 (by decide) ?_
        refine sx_bipush (v := (97 : Int32)) dX7_wordOf_123 (by decide) ?_
        refine sx_bipush (v := (121 : Int32)) dX7_wordOf_125 (by decide) ?_
        refine sx_iconst (v := (0 : Int32)) dX7_wordOf_127 (by decide) ?_
        refine sx_iconst (v := (0 : Int32)) dX7_wordOf_128 (by decide) ?_
        obtain ⟨z6, hz6, h⟩ := sx_bd h
        refine sx_callS (As := [.int (112 : Int32), .int (97 : Int32), .int (121 : Int32), .int (0 : Int32), .int (0 : Int32)]) (rest := [.long v0]) KSM (F7_named_ck l  (112 : Int32) (97 : Int32) (121 : Int32) (0 : Int32) (0 : Int32) z5.2 hz6) mi_X7_named gw_892 rfl gw_893 ⟨Nat.le_of_ble_eq_true rfl, Nat.le_of_ble_eq_true rfl⟩ (Nat.le_of_ble_eq_true rfl) dX7_wordOf_129 rfl ?_
        refine sx_lcmp dX7_wordOf_132 ?_
        refine sx_if_ne (tgt := 140) dX7_wordOf_133 (by decide) (fun c9 => ?_) (fun c9 => ?_)
        · replace h := sx_in h c9
          refine sx_bipush (v := (-9 : Int32)) dX7_wordOf_140 (by decide) ?_
          obtain rfl := Option.some.inj h
          exact sx_iret dX7_wordOf_142 rfl hk9
        · replace h := sx_ip h c9
          refine sx_iconst (v := (5 : Int32)) dX7_wordOf_136 (by decide) ?_
          refine sx_goto (tgt := 142) dX7_wordOf_137 (by decide) ?_
          obtain rfl := Option.some.inj h
          exact sx_iret dX7_wordOf_142 rfl hk9
      · replace h := sx_ip h c9
        refine sx_iconst (v := (4 : Int32)) dX7_wordOf_116 (by decide) ?_
        refine sx_goto (tgt := 142) dX7_wordOf_117 (by decide) ?_
        obtain rfl := Option.some.inj h
        exact sx_iret dX7_wordOf_142 rfl hk9
    · replace h := sx_ip h c9
      refine sx_iconst (v := (3 : Int32)) dX7_wordOf_95 (by decide) ?_
      refine sx_goto (tgt := 142) dX7_wordOf_96 (by decide) ?_
      obtain rfl := Option.some.inj h
      exact sx_iret dX7_wordOf_142 rfl hk9
  · replace h := sx_in h c9
    refine sx_iload_n dX7_wordOf_73 rfl rfl ?_
    refine sx_goto (tgt := 142) dX7_wordOf_74 (by decide) ?_
    obtain rfl := Option.some.inj h
    exact sx_iret dX7_wordOf_142 rfl hk9
def F7_wordOf  (v0 : Int64) (q : SQ) : Option (Int32 × SQ) :=
  (F7_named  (99 : Int32) (104 : Int32) (105 : Int32) (108 : Int32) (100 : Int32) q).bind (fun z1 => (if lg_cmp v0 z1.1 = 0 then F7_wordOf_66  v0 (0 : Int32) z1.2 else (F7_named  (98 : Int32) (111 : Int32) (111 : Int32) (107 : Int32) (0 : Int32) z1.2).bind (fun z2 => (if lg_cmp v0 z2.1 = 0 then F7_wordOf_66  v0 (1 : Int32) z2.2 else (F7_named  (112 : Int32) (108 : Int32) (97 : Int32) (110 : Int32) (0 : Int32) z2.2).bind (fun z3 => (if lg_cmp v0 z3.1 = 0 then F7_wordOf_66  v0 (2 : Int32) z3.2 else F7_wordOf_66  v0 (-9 : Int32) z3.2))))))
set_option maxHeartbeats 400000 in
theorem F7_wordOf_ok (l : Launch)  {Q : Option Value → SQ → Prop} (v0 : Int64) (q : SQ) {res : Int32 × SQ} (h : F7_wordOf  v0 q = some res) (hk9 : Q (some (.int res.1)) res.2) : PF7_wordOf l Q 0 [(0, .long v0)] [] q := by
  unfold F7_wordOf at h
  refine sx_lload_n dX7_wordOf_0 rfl rfl ?_
  refine sx_bipush (v := (99 : Int32)) dX7_wordOf_1 (by decide) ?_
  refine sx_bipush (v := (104 : Int32)) dX7_wordOf_3 (by decide) ?_
  refine sx_bipush (v := (105 : Int32)) dX7_wordOf_5 (by decide) ?_
  refine sx_bipush (v := (108 : Int32)) dX7_wordOf_7 (by decide) ?_
  refine sx_bipush (v := (100 : Int32)) dX7_wordOf_9 (by decide) ?_
  obtain ⟨z1, hz1, h⟩ := sx_bd h
  refine sx_callS (As := [.int (99 : Int32), .int (104 : Int32), .int (105 : Int32), .int (108 : Int32), .int (100 : Int32)]) (rest := [.long v0]) KSM (F7_named_ck l  (99 : Int32) (104 : Int32) (105 : Int32) (108 : Int32) (100 : Int32) q hz1) mi_X7_named gw_892 rfl gw_893 ⟨Nat.le_of_ble_eq_true rfl, Nat.le_of_ble_eq_true rfl⟩ (Nat.le_of_ble_eq_true rfl) dX7_wordOf_11 rfl ?_
  refine sx_lcmp dX7_wordOf_14 ?_
  refine sx_if_ne (tgt := 22) dX7_wordOf_15 (by decide) (fun c9 => ?_) (fun c9 => ?_)
  · replace h := sx_in h c9
    refine sx_lload_n dX7_wordOf_22 rfl rfl ?_
    refine sx_bipush (v := (98 : Int32)) dX7_wordOf_23 (by decide) ?_
    refine sx_bipush (v := (111 : Int32)) dX7_wordOf_25 (by decide) ?_
    refine sx_bipush (v := (111 : Int32)) dX7_wordOf_27 (by decide) ?_
    refine sx_bipush (v := (107 : Int32)) dX7_wordOf_29 (by decide) ?_
    refine sx_iconst (v := (0 : Int32)) dX7_wordOf_31 (by decide) ?_
    obtain ⟨z2, hz2, h⟩ := sx_bd h
    refine sx_callS (As := [.int (98 : Int32), .int (111 : Int32), .int (111 : Int32), .int (107 : Int32), .int (0 : Int32)]) (rest := [.long v0]) KSM (F7_named_ck l  (98 : Int32) (111 : Int32) (111 : Int32) (107 : Int32) (0 : Int32) z1.2 hz2) mi_X7_named gw_892 rfl gw_893 ⟨Nat.le_of_ble_eq_true rfl, Nat.le_of_ble_eq_true rfl⟩ (Nat.le_of_ble_eq_true rfl) dX7_wordOf_32 rfl ?_
    refine sx_lcmp dX7_wordOf_35 ?_
    refine sx_if_ne (tgt := 43) dX7_wordOf_36 (by decide) (fun c9 => ?_) (fun c9 => ?_)
    · replace h := sx_in h c9
      refine sx_lload_n dX7_wordOf_43 rfl rfl ?_
      refine sx_bipush (v := (112 : Int32)) dX7_wordOf_44 (by decide) ?_
      refine sx_bipush (v := (108 : Int32)) dX7_wordOf_46 (by decide) ?_
      refine sx_bipush (v := (97 : Int32)) dX7_wordOf_48 (by decide) ?_
      refine sx_bipush (v := (110 : Int32)) dX7_wordOf_50 (by decide) ?_
      refine sx_iconst (v := (0 : Int32)) dX7_wordOf_52 (by decide) ?_
      obtain ⟨z3, hz3, h⟩ := sx_bd h
      refine sx_callS (As := [.int (112 : Int32), .int (108 : Int32), .int (97 : Int32), .int (110 : Int32), .int (0 : Int32)]) (rest := [.long v0]) KSM (F7_named_ck l  (112 : Int32) (108 : Int32) (97 : Int32) (110 : Int32) (0 : Int32) z2.2 hz3) mi_X7_named gw_892 rfl gw_893 ⟨Nat.le_of_ble_eq_true rfl, Nat.le_of_ble_eq_true rfl⟩ (Nat.le_of_ble_eq_true rfl) dX7_wordOf_53 rfl ?_
      refine sx_lcmp dX7_wordOf_56 ?_
      refine sx_if_ne (tgt := 64) dX7_wordOf_57 (by decide) (fun c9 => ?_) (fun c9 => ?_)
      · replace h := sx_in h c9
        refine sx_bipush (v := (-9 : Int32)) dX7_wordOf_64 (by decide) ?_
        exact F7_wordOf_66_ok l  v0 (-9 : Int32) z3.2 h hk9
      · replace h := sx_ip h c9
        refine sx_iconst (v := (2 : Int32)) dX7_wordOf_60 (by decide) ?_
        refine sx_goto (tgt := 66) dX7_wordOf_61 (by decide) ?_
        exact F7_wordOf_66_ok l  v0 (2 : Int32) z3.2 h hk9
    · replace h := sx_ip h c9
      refine sx_iconst (v := (1 : Int32)) dX7_wordOf_39 (by decide) ?_
      refine sx_goto (tgt := 66) dX7_wordOf_40 (by decide) ?_
      exact F7_wordOf_66_ok l  v0 (1 : Int32) z2.2 h hk9
  · replace h := sx_ip h c9
    refine sx_iconst (v := (0 : Int32)) dX7_wordOf_18 (by decide) ?_
    refine sx_goto (tgt := 66) dX7_wordOf_19 (by decide) ?_
    exact F7_wordOf_66_ok l  v0 (0 : Int32) z1.2 h hk9
theorem F7_wordOf_ck (l : Launch)  (v0 : Int64) (q : SQ) {r : Int32 × SQ} (h : F7_wordOf  v0 q = some r) : CK shM vwCl KM tfM l yX7_wordOf cX7_wordOf 3 ((some .int)) 2 46 [.long v0] q (some (.int r.1)) r.2 :=
  CK.of mi_X7_wordOf (Nat.le_of_ble_eq_true rfl) (F7_wordOf_ok l  v0 q h ⟨rfl, rfl⟩)
