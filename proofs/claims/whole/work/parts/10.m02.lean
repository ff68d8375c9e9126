theorem mi_X6_tune : sx_MI yX6_tune cX6_tune 4 ((some .int)) 2 := ⟨by decide, ⟨by decide, by decide, by decide +kernel⟩, gw_508, gw_60⟩
abbrev PF6_tune (l : Launch) (Q : Option Value → SQ → Prop) : Nat → List (Nat × Value) → List Value → SQ → Prop := XX shX vwCl KX tfX l RX6 cX6_tune 4 ((some .int)) { frames := 1, cells := 0, slots := 0, locals := 22 } Q
def F6_tune_22   (q : SQ) : Option (Int32 × SQ) :=
  some ((-1 : Int32), q)
set_option maxHeartbeats 400000 in
theorem F6_tune_22_ok (l : Launch)  {Q : Option Value → SQ → Prop}  (q : SQ) {res : Int32 × SQ} (h : F6_tune_22   q = some res) (hk9 : Q (some (.int res.1)) res.2) : PF6_tune l Q 22 [] [] q := by
  unfold F6_tune_22 at h
  refine sx_iconst (v := (-1 : Int32)) dX6_tune_22 (by decide) ?_
  obtain rfl := Option.some.inj h
  exact sx_iret dX6_tune_23 rfl hk9
def F6_tune  (v1 : Int32) (v2 : Int32) (q : SQ) : Option (Int32 × SQ) :=
  (F6_within  v1 (0 : Int32) (5 : Int32) q).bind (fun z1 => (if z1.1 = 0 then F6_tune_22   z1.2 else (if sx_ix v1 6 = true then (F6_within  v2 (0 : Int32) (tMost v1.toNatClampNeg) z1.2).bind (fun z2 => (if z2.1 = 0 then F6_tune_22   z2.2 else (if sx_ix v1 6 = true then sx_let (gI z2.2 23 v1.toNatClampNeg) (fun x3 => (if sx_ix v1 6 = true then sx_let (sI z2.2 23 v1.toNatClampNeg v2) (fun q4 => some (x3, q4)) else none)) else none))) else none)))
set_option maxHeartbeats 400000 in
theorem F6_tune_ok (l : Launch)  {Q : Option Value → SQ → Prop} (v1 : Int32) (v2 : Int32) (q : SQ) {res : Int32 × SQ} (h : F6_tune  v1 v2 q = some res) (hk9 : Q (some (.int res.1)) res.2) : PF6_tune l Q 0 [(0, .ref 0), (1, .int v1), (2, .int v2)] [] q := by
  unfold F6_tune at h
  refine sx_iload_n dX6_tune_0 rfl rfl ?_
  refine sx_iconst (v := (0 : Int32)) dX6_tune_1 (by decide) ?_
  refine sx_iconst (v := (5 : Int32)) dX6_tune_2 (by decide) ?_
  obtain ⟨z1, hz1, h⟩ := sx_bd h
  refine sx_callS (As := [.int v1, .int (0 : Int32), .int (5 : Int32)]) (rest := []) KSX (F6_within_ck l  v1 (0 : Int32) (5 : Int32) q hz1) mi_X6_within gw_333 rfl gw_334 ⟨Nat.le_of_ble_eq_true rfl, Nat.le_of_ble_eq_true rfl⟩ (Nat.le_of_ble_eq_true rfl) dX6_tune_3 rfl ?_
  refine sx_if_eq (tgt := 22) dX6_tune_6 (by decide) (fun c9 => ?_) (fun c9 => ?_)
  · replace h := sx_ip h c9
    refine sx_locs [] rfl ?_
    exact F6_tune_22_ok l   z1.2 h hk9
  · replace h := sx_in h c9
    refine sx_iload_n dX6_tune_9 rfl rfl ?_
    refine sx_iconst (v := (0 : Int32)) dX6_tune_10 (by decide) ?_
    refine sx_gets_TUNE_MOST dX6_tune_11 gw_509 ?_
    refine sx_iload_n dX6_tune_14 rfl rfl ?_
    obtain ⟨g9, h⟩ := sx_gd h
    refine sx_tald1010 dX6_tune_15 (sx_ix_in g9) ?_
    obtain ⟨z2, hz2, h⟩ := sx_bd h
    refine sx_callS (As := [.int v2, .int (0 : Int32), .int (tMost v1.toNatClampNeg)]) (rest := []) KSX (F6_within_ck l  v2 (0 : Int32) (tMost v1.toNatClampNeg) z1.2 hz2) mi_X6_within gw_333 rfl gw_334 ⟨Nat.le_of_ble_eq_true rfl, Nat.le_of_ble_eq_true rfl⟩ (Nat.le_of_ble_eq_true rfl) dX6_tune_16 rfl ?_
    refine sx_if_ne (tgt := 24) dX6_tune_19 (by decide) (fun c9 => ?_) (fun c9 => ?_)
    · replace h := sx_in h c9
      refine sx_aload_n dX6_tune_24 rfl rfl ?_
      refine sx_getR dX6_tune_25 (hs := shX_0) (k9 := 3) (hf := rfl) cb_X6 ⟨by decide, rfl, gw_295⟩ ?_
      refine sx_iload_n dX6_tune_28 rfl rfl ?_
      obtain ⟨g9, h⟩ := sx_gd h
      refine sx_iald dX6_tune_29 shX_23 (fun _ _ => rfl) (sx_ix_in g9) ?_
      obtain ⟨x3, ex3, h⟩ := sx_lt h
      refine sx_nmI ex3 ?_
      refine sx_istore_n (ls2 := [(3, .int x3), (0, .ref 0), (1, .int v1), (2, .int v2)]) dX6_tune_30 rfl (by decide) rfl ?_
      refine sx_aload_n dX6_tune_31 rfl rfl ?_
      refine sx_getR dX6_tune_32 (hs := shX_0) (k9 := 3) (hf := rfl) cb_X6 ⟨by decide, rfl, gw_295⟩ ?_
      refine sx_iload_n dX6_tune_35 rfl rfl ?_
      refine sx_iload_n dX6_tune_36 rfl rfl ?_
      obtain ⟨g9, h⟩ := sx_gd h
      obtain ⟨q4, eq4, h⟩ := sx_lt h
      refine sx_iast dX6_tune_37 shX_23 (fun _ _ => rfl) (sx_ix_in g9) ?_
      refine sx_nmQ eq4 ?_
      refine sx_iload_n dX6_tune_38 rfl rfl ?_
      obtain rfl := Option.some.inj h
      exact sx_iret dX6_tune_39 rfl hk9
    · replace h := sx_ip h c9
      refine sx_locs [] rfl ?_
      exact F6_tune_22_ok l   z2.2 h hk9
theorem F6_tune_ck (l : Launch)  (v1 : Int32) (v2 : Int32) (q : SQ) {r : Int32 × SQ} (h : F6_tune  v1 v2 q = some r) : CK shX vwCl KX tfX l yX6_tune cX6_tune 4 ((some .int)) 1 22 [.ref 0, .int v1, .int v2] q (some (.int r.1)) r.2 :=
  CK.of mi_X6_tune (Nat.le_of_ble_eq_true rfl) (F6_tune_ok l  v1 v2 q h ⟨rfl, rfl⟩)
theorem mi_X6_isDay : sx_MI yX6_isDay cX6_isDay 1 ((some .boolean)) 1 := ⟨by decide, ⟨by decide, by decide, by decide +kernel⟩, gw_517, gw_60⟩
abbrev PF6_isDay (l : Launch) (Q : Option Value → SQ → Prop) : Nat → List (Nat × Value) → List Value → SQ → Prop := XX shX vwCl KX tfX l RX6 cX6_isDay 1 ((some .boolean)) { frames := 1, cells := 0, slots := 0, locals := 22 } Q
def F6_isDay  (v0 : Int32) (q : SQ) : Option (Int32 × SQ) :=
  (F6_within  v0 (0 : Int32) (99 : Int32) q).bind (fun z1 => (if sx_bt z1.1 = true then some (z1.1, z1.2) else none))
set_option maxHeartbeats 400000 in
theorem F6_isDay_ok (l : Launch)  {Q : Option Value → SQ → Prop} (v0 : Int32) (q : SQ) {res : Int32 × SQ} (h : F6_isDay  v0 q = some res) (hk9 : Q (some (.int res.1)) res.2) : PF6_isDay l Q 0 [(0, .int v0)] [] q := by
  unfold F6_isDay at h
  refine sx_iload_n dX6_isDay_0 rfl rfl ?_
  refine sx_iconst (v := (0 : Int32)) dX6_isDay_1 (by decide) ?_
  refine sx_bipush (v := (99 : Int32)) dX6_isDay_2 (by decide) ?_
  obtain ⟨z1, hz1, h⟩ := sx_bd h
  refine sx_callS (As := [.int v0, .int (0 : Int32), .int (99 : Int32)]) (rest := []) KSX (F6_within_ck l  v0 (0 : Int32) (99 : Int32) q hz1) mi_X6_within gw_333 rfl gw_334 ⟨Nat.le_of_ble_eq_true rfl, Nat.le_of_ble_eq_true rfl⟩ (Nat.le_of_ble_eq_true rfl) dX6_isDay_4 rfl ?_
  obtain ⟨g9, h⟩ := sx_gd h
  obtain rfl := Option.some.inj h
  exact sx_zret dX6_isDay_7 rfl (sx_bit g9) hk9
theorem F6_isDay_ck (l : Launch)  (v0 : Int32) (q : SQ) {r : Int32 × SQ} (h : F6_isDay  v0 q = some r) : CK shX vwCl KX tfX l yX6_isDay cX6_isDay 1 ((some .boolean)) 1 22 [.int v0] q (some (.int r.1)) r.2 :=
  CK.of mi_X6_isDay (Nat.le_of_ble_eq_true rfl) (F6_isDay_ok l  v0 q h ⟨rfl, rfl⟩)
theorem mi_X4_givenOn : sx_MI yX4_givenOn cX4_givenOn 3 ((some .int)) 2 := ⟨by decide, ⟨by decide, by decide, by decide +kernel⟩, gw_521, gw_61⟩
abbrev PF4_givenOn (l : Launch) (Q : Option Value → SQ → Prop) : Nat → List (Nat × Value) → List Value → SQ → Prop := XX shX vwCl KX tfX l RX4 cX4_givenOn 3 ((some .int)) { frames := 0, cells := 0, slots := 0, locals := 0 } Q
def F4_givenOn_21 (k : Nat)  (q : SQ) : Option (Int32 × SQ) :=
  some ((0 : Int32), q)
set_option maxHeartbeats 400000 in
theorem F4_givenOn_21_ok (l : Launch) (k : Nat) (hk : iSh k) {Q : Option Value → SQ → Prop}  (q : SQ) {res : Int32 × SQ} (h : F4_givenOn_21 k  q = some res) (hk9 : Q (some (.int res.1)) res.2) : PF4_givenOn l Q 21 [] [] q := by
  unfold F4_givenOn_21 at h
  refine sx_iconst (v := (0 : Int32)) dX4_givenOn_21 (by decide) ?_
  obtain rfl := Option.some.inj h
  exact sx_iret dX4_givenOn_22 rfl hk9
def F4_givenOn (k : Nat) (v1 : Int32) (v2 : Int32) (q : SQ) : Option (Int32 × SQ) :=
  (if v2 < gI q k 8 then F4_givenOn_21 k  q else (if v2 < (gI q k 9) + (gI q k 10) then (if gI q k 9 ≤ v2 then (if sx_ix v1 4 = true then (if sx_n0 ((gI q k 10) + (1 : Int32)) = true then some (((gI q (k + 6) v1.toNatClampNeg) * (((gI q k 9) + (gI q k 10)) - v2)) / ((gI q k 10) + (1 : Int32)), q) else none) else none) else (if sx_ix v1 4 = true then some (gI q (k + 6) v1.toNatClampNeg, q) else none)) else F4_givenOn_21 k  q))
set_option maxHeartbeats 400000 in
theorem F4_givenOn_ok (l : Launch) (k : Nat) (hk : iSh k) {Q : Option Value → SQ → Prop} (v1 : Int32) (v2 : Int32) (q : SQ) {res : Int32 × SQ} (h : F4_givenOn k v1 v2 q = some res) (hk9 : Q (some (.int res.1)) res.2) : PF4_givenOn l Q 0 [(0, .ref k), (1, .int v1), (2, .int v2)] [] q := by
  unfold F4_givenOn at h
  refine sx_iload_n dX4_givenOn_0 rfl rfl ?_
  refine sx_aload_n dX4_givenOn_1 rfl rfl ?_
  refine sx_getI dX4_givenOn_2 (hs := hk.1) (k9 := 8) (hf := rfl) cb_X4 ⟨by decide, rfl, gw_112⟩ ?_
  refine sx_icmp_lt (tgt := 21) dX4_givenOn_5 (by decide) (fun c9 => ?_) (fun c9 => ?_)
  · replace h := sx_ip h c9
    refine sx_locs [] rfl ?_
    exact F4_givenOn_21_ok l k hk  q h hk9
  · replace h := sx_in h c9
    refine sx_iload_n dX4_givenOn_8 rfl rfl ?_
    refine sx_aload_n dX4_givenOn_9 rfl rfl ?_
    refine sx_getI dX4_givenOn_10 (hs := hk.1) (k9 := 9) (hf := rfl) cb_X4 ⟨by decide, rfl, gw_114⟩ ?_
    refine sx_aload_n dX4_givenOn_13 rfl rfl ?_
    refine sx_getI dX4_givenOn_14 (hs := hk.1) (k9 := 10) (hf := rfl) cb_X4 ⟨by decide, rfl, gw_116⟩ ?_
    refine sx_iadd dX4_givenOn_17 ?_
    refine sx_icmp_lt (tgt := 23) dX4_givenOn_18 (by decide) (fun c9 => ?_) (fun c9 => ?_)
    · replace h := sx_ip h c9
      refine sx_iload_n dX4_givenOn_23 rfl rfl ?_
      refine sx_aload_n dX4_givenOn_24 rfl rfl ?_
      refine sx_getI dX4_givenOn_25 (hs := hk.1) (k9 := 9) (hf := rfl) cb_X4 ⟨by decide, rfl, gw_114⟩ ?_
      refine sx_icmp_ge (tgt := 40) dX4_givenOn_28 (by decide) (fun c9 => ?_) (fun c9 => ?_)
      · replace h := sx_ip h c9
        refine sx_aload_n dX4_givenOn_40 rfl rfl ?_
        refine sx_getR dX4_givenOn_41 (hs := hk.1) (k9 := 7) (hf := rfl) cb_X4 ⟨by decide, rfl, gw_109⟩ ?_
        refine sx_iload_n dX4_givenOn_44 rfl rfl ?_
        obtain ⟨g9, h⟩ := sx_gd h
        refine sx_iald dX4_givenOn_45 hk.2.2.2.2.2.2 (fun _ _ => rfl) (sx_ix_in g9) ?_
        refine sx_aload_n dX4_givenOn_46 rfl rfl ?_
        refine sx_getI dX4_givenOn_47 (hs := hk.1) (k9 := 9) (hf := rfl) cb_X4 ⟨by decide, rfl, gw_114⟩ ?_
        refine sx_aload_n dX4_givenOn_50 rfl rfl ?_
        refine sx_getI dX4_givenOn_51 (hs := hk.1) (k9 := 10) (hf := rfl) cb_X4 ⟨by decide, rfl, gw_116⟩ ?_
        refine sx_iadd dX4_givenOn_54 ?_
        refine sx_iload_n dX4_givenOn_55 rfl rfl ?_
        refine sx_isub dX4_givenOn_56 ?_
        refine sx_imul dX4_givenOn_57 ?_
        refine sx_aload_n dX4_givenOn_58 rfl rfl ?_
        refine sx_getI dX4_givenOn_59 (hs := hk.1) (k9 := 10) (hf := rfl) cb_X4 ⟨by decide, rfl, gw_116⟩ ?_
        refine sx_iconst (v := (1 : Int32)) dX4_givenOn_62 (by decide) ?_
        refine sx_iadd dX4_givenOn_63 ?_
        obtain ⟨g9, h⟩ := sx_gd h
        refine sx_idiv dX4_givenOn_64 (sx_nz g9) ?_
        obtain rfl := Option.some.inj h
        exact sx_iret dX4_givenOn_65 rfl hk9
      · replace h := sx_in h c9
        refine sx_aload_n dX4_givenOn_31 rfl rfl ?_
        refine sx_getR dX4_givenOn_32 (hs := hk.1) (k9 := 7) (hf := rfl) cb_X4 ⟨by decide, rfl, gw_109⟩ ?_
        refine sx_iload_n dX4_givenOn_35 rfl rfl ?_
        obtain ⟨g9, h⟩ := sx_gd h
        refine sx_iald dX4_givenOn_36 hk.2.2.2.2.2.2 (fun _ _ => rfl) (sx_ix_in g9) ?_
        refine sx_goto (tgt := 65) dX4_givenOn_37 (by decide) ?_
        obtain rfl := Option.some.inj h
        exact sx_iret dX4_givenOn_65 rfl hk9
    · replace h := sx_in h c9
      refine sx_locs [] rfl ?_
      exact F4_givenOn_21_ok l k hk  q h hk9
theorem F4_givenOn_ck (l : Launch) (k : Nat) (hk : iSh k) (v1 : Int32) (v2 : Int32) (q : SQ) {r : Int32 × SQ} (h : F4_givenOn k v1 v2 q = some r) : CK shX vwCl KX tfX l yX4_givenOn cX4_givenOn 3 ((some .int)) 0 0 [.ref k, .int v1, .int v2] q (some (.int r.1)) r.2 :=
  CK.of mi_X4_givenOn (Nat.le_of_ble_eq_true rfl) (F4_givenOn_ok l k hk v1 v2 q h ⟨rfl, rfl⟩)
theorem mi_X6_given : sx_MI yX6_given cX6_given 3 ((some .int)) 2 := ⟨by decide, ⟨by decide, by decide, by decide +kernel⟩, gw_514, gw_60⟩
abbrev PF6_given (l : Launch) (Q : Option Value → SQ → Prop) : Nat → List (Nat × Value) → List Value → SQ → Prop := XX shX vwCl KX tfX l RX6 cX6_given 3 ((some .int)) { frames := 2, cells := 0, slots := 0, locals := 43 } Q
def F6_given_27   (q : SQ) : Option (Int32 × SQ) :=
  some ((-1 : Int32), q)
set_option maxHeartbeats 400000 in
theorem F6_given_27_ok (l : Launch)  {Q : Option Value → SQ → Prop}  (q : SQ) {res : Int32 × SQ} (h : F6_given_27   q = some res) (hk9 : Q (some (.int res.1)) res.2) : PF6_given l Q 27 [] [] q := by
  unfold F6_given_27 at h
  refine sx_iconst (v := (-1 : Int32)) dX6_given_27 (by decide) ?_
  obtain rfl := Option.some.inj h
  exact sx_iret dX6_given_28 rfl hk9
def F6_given  (v1 : Int32) (v2 : Int32) (q : SQ) : Option (Int32 × SQ) :=
  (F6_isSort  v1 q).bind (fun z1 => (if z1.1 = 0 then F6_given_27   z1.2 else (F6_isDay  v2 z1.2).bind (fun z2 => (if z2.1 = 0 then F6_given_27   z2.2 else (F4_givenOn 1 v1 v2 z2.2).bind (fun z3 => some (z3.1, z3.2))))))
set_option maxHeartbeats 400000 in
theorem F6_given_ok (l : Launch)  {Q : Option Value → SQ → Prop} (v1 : Int32) (v2 : Int32) (q : SQ) {res : Int32 × SQ} (h : F6_given  v1 v2 q = some res) (hk9 : Q (some (.int res.1)) res.2) : PF6_given l Q 0 [(0, .ref 0), (1, .int v1), (2, .int v2)] [] q := by
  unfold F6_given at h
  refine sx_aload_n dX6_given_0 rfl rfl ?_
  refine sx_iload_n dX6_given_1 rfl rfl ?_
  obtain ⟨z1, hz1, h⟩ := sx_bd h
  refine sx_callV (o := 0) (As := [.int v1]) (rest := []) KSX (F6_isSort_ck l  v1 q hz1) mi_X6_isSort gw_497 rfl ⟨gw_499, gw_14⟩ shX_0 rfl rfl ⟨Nat.le_of_ble_eq_true rfl, Nat.le_of_ble_eq_true rfl⟩ (Nat.le_of_ble_eq_true rfl) dX6_given_2 rfl ?_
  refine sx_if_eq (tgt := 27) dX6_given_5 (by decide) (fun c9 => ?_) (fun c9 => ?_)
  · replace h := sx_ip h c9
    refine sx_locs [] rfl ?_
    exact F6_given_27_ok l   z1.2 h hk9
  · replace h := sx_in h c9
    refine sx_iload_n dX6_given_8 rfl rfl ?_
    obtain ⟨z2, hz2, h⟩ := sx_bd h
    refine sx_callS (As := [.int v2]) (rest := []) KSX (F6_isDay_ck l  v2 z1.2 hz2) mi_X6_isDay gw_515 rfl gw_516 ⟨Nat.le_of_ble_eq_true rfl, Nat.le_of_ble_eq_true rfl⟩ (Nat.le_of_ble_eq_true rfl) dX6_given_9 rfl ?_
    refine sx_if_eq (tgt := 27) dX6_given_12 (by decide) (fun c9 => ?_) (fun c9 => ?_)
    · replace h := sx_ip h c9
      refine sx_locs [] rfl ?_
      exact F6_given_27_ok l   z2.2 h hk9
    · replace h := sx_in h c9
      refine sx_aload_n dX6_given_15 rfl rfl ?_
      refine sx_getR dX6_given_16 (hs := shX_0) (k9 := 0) (hf := rfl) cb_X6 ⟨by decide, rfl, gw_292⟩ ?_
      refine sx_iload_n dX6_given_19 rfl rfl ?_
      refine sx_iload_n dX6_given_20 rfl rfl ?_
      obtain ⟨z3, hz3, h⟩ := sx_bd h
      refine sx_callV (o := 1) (As := [.int v1, .int v2]) (rest := []) KSX (F4_givenOn_ck l 1 iSh_1 v1 v2 z2.2 hz3) mi_X4_givenOn gw_518 rfl ⟨gw_519, gw_520⟩ shX_1 rfl rfl ⟨Nat.le_of_ble_eq_true rfl, Nat.le_of_ble_eq_true rfl⟩ (Nat.le_of_ble_eq_true rfl) dX6_given_21 rfl ?_
      refine sx_goto (tgt := 28) dX6_given_24 (by decide) ?_
      obtain rfl := Option.some.inj h
      exact sx_iret dX6_given_28 rfl hk9
theorem F6_given_ck (l : Launch)  (v1 : Int32) (v2 : Int32) (q : SQ) {r : Int32 × SQ} (h : F6_given  v1 v2 q = some r) : CK shX vwCl KX tfX l yX6_given cX6_given 3 ((some .int)) 2 43 [.ref 0, .int v1, .int v2] q (some (.int r.1)) r.2 :=
  CK.of mi_X6_given (Nat.le_of_ble_eq_true rfl) (F6_given_ok l  v1 v2 q h ⟨rfl, rfl⟩)
theorem mi_X4_pagesIn : sx_MI yX4_pagesIn cX4_pagesIn 3 ((some .int)) 2 := ⟨by decide, ⟨by decide, by decide, by decide +kernel⟩, gw_529, gw_61⟩
abbrev PF4_pagesIn (l : Launch) (Q : Option Value → SQ → Prop) : Nat → List (Nat × Value) → List Value → SQ → Prop := XX shX vwCl KX tfX l RX4 cX4_pagesIn 3 ((some .int)) { frames := 0, cells := 0, slots := 0, locals := 0 } Q
def F4_pagesIn (k : Nat) (v1 : Int32) (v2 : Int32) (q : SQ) : Option (Int32 × SQ) :=
  (if sx_ix v2 4 = true then (if gI q (k + 4) v2.toNatClampNeg ≤ 0 then some ((0 : Int32), q) else (if sx_ix v1 8 = true then (if sx_ix v2 4 = true then (if sx_n0 (gI q (k + 4) v2.toNatClampNeg) = true then some (((6 : Int32) * (gI q (k + 2) v1.toNatClampNeg)) / (gI q (k + 4) v2.toNatClampNeg), q) else none) else none) else none)) else none)
set_option maxHeartbeats 400000 in
theorem F4_pagesIn_ok (l : Launch) (k : Nat) (hk : iSh k) {Q : Option Value → SQ → Prop} (v1 : Int32) (v2 : Int32) (q : SQ) {res : Int32 × SQ} (h : F4_pagesIn k v1 v2 q = some res) (hk9 : Q (some (.int res.1)) res.2) : PF4_pagesIn l Q 0 [(0, .ref k), (1, .int v1), (2, .int v2)] [] q := by
  unfold F4_pagesIn at h
  refine sx_aload_n dX4_pagesIn_0 rfl rfl ?_
  refine sx_getR dX4_pagesIn_1 (hs := hk.1) (k9 := 5) (hf := rfl) cb_X4 ⟨by decide, rfl, gw_104⟩ ?_
  refine sx_iload_n dX4_pagesIn_4 rfl rfl ?_
  obtain ⟨g9, h⟩ := sx_gd h
  refine sx_iald dX4_pagesIn_5 hk.2.2.2.2.1 (fun _ _ => rfl) (sx_ix_in g9) ?_
  refine sx_if_le (tgt := 28) dX4_pagesIn_6 (by decide) (fun c9 => ?_) (fun c9 => ?_)
  · replace h := sx_ip h c9
    refine sx_iconst (v := (0 : Int32)) dX4_pagesIn_28 (by decide) ?_
    obtain rfl := Option.some.inj h
    exact sx_iret dX4_pagesIn_29 rfl hk9
  · replace h := sx_in h c9
    refine sx_bipush (v := (6 : Int32)) dX4_pagesIn_9 (by decide) ?_
    refine sx_aload_n dX4_pagesIn_11 rfl rfl ?_
    refine sx_getR dX4_pagesIn_12 (hs := hk.1) (k9 := 3) (hf := rfl) cb_X4 ⟨by decide, rfl, gw_99⟩ ?_
    refine sx_iload_n dX4_pagesIn_15 rfl rfl ?_
    obtain ⟨g9, h⟩ := sx_gd h
    refine sx_iald dX4_pagesIn_16 hk.2.2.1 (fun _ _ => rfl) (sx_ix_in g9) ?_
    refine sx_imul dX4_pagesIn_17 ?_
    refine sx_aload_n dX4_pagesIn_18 rfl rfl ?_
    refine sx_getR dX4_pagesIn_19 (hs := hk.1) (k9 := 5) (hf := rfl) cb_X4 ⟨by decide, rfl, gw_104⟩ ?_
    refine sx_iload_n dX4_pagesIn_22 rfl rfl ?_
    obtain ⟨g9, h⟩ := sx_gd h
    refine sx_iald dX4_pagesIn_23 hk.2.2.2.2.1 (fun _ _ => rfl) (sx_ix_in g9) ?_
    obtain ⟨g9, h⟩ := sx_gd h
    refine sx_idiv dX4_pagesIn_24 (sx_nz g9) ?_
    refine sx_goto (tgt := 29) dX4_pagesIn_25 (by decide) ?_
    obtain rfl := Option.some.inj h
    exact sx_iret dX4_pagesIn_29 rfl hk9
theorem F4_pagesIn_ck (l : Launch) (k : Nat) (hk : iSh k) (v1 : Int32) (v2 : Int32) (q : SQ) {r : Int32 × SQ} (h : F4_pagesIn k v1 v2 q = some r) : CK shX vwCl KX tfX l yX4_pagesIn cX4_pagesIn 3 ((some .int)) 0 0 [.ref k, .int v1, .int v2] q (some (.int r.1)) r.2 :=
  CK.of mi_X4_pagesIn (Nat.le_of_ble_eq_true rfl) (F4_pagesIn_ok l k hk v1 v2 q h ⟨rfl, rfl⟩)
theorem mi_X0_joysOf : sx_MI yX0_joysOf cX0_joysOf 4 ((some .int)) 3 := ⟨by decide, ⟨by decide, by decide, by decide +kernel⟩, gw_533, gw_63⟩
abbrev PF0_joysOf (l : Launch) (Q : Option Value → SQ → Prop) : Nat → List (Nat × Value) → List Value → SQ → Prop := XX shX vwCl KX tfX l RX0 cX0_joysOf 4 ((some .int)) { frames := 0, cells := 0, slots := 0, locals := 0 } Q
def F0_joysOf (k : Nat) (r1 : Nat) (v2 : Int32) (v3 : Int32) (q : SQ) : Option (Int32 × SQ) :=
  (if sx_ix v3 4 = true then (if sx_ix v2 8 = true then some (((gI q (r1 + 5) v3.toNatClampNeg) * (gI q (k + 1) v2.toNatClampNeg)) / (10 : Int32), q) else none) else none)
set_option maxHeartbeats 400000 in
theorem F0_joysOf_ok (l : Launch) (k : Nat) (hk : iCo k) (r1 : Nat) (hr1 : iSh r1) {Q : Option Value → SQ → Prop} (v2 : Int32) (v3 : Int32) (q : SQ) {res : Int32 × SQ} (h : F0_joysOf k r1 v2 v3 q = some res) (hk9 : Q (some (.int res.1)) res.2) : PF0_joysOf l Q 0 [(0, .ref k), (1, .ref r1), (2, .int v2), (3, .int v3)] [] q := by
  unfold F0_joysOf at h
  refine sx_aload_n dX0_joysOf_0 rfl rfl ?_
  refine sx_getR dX0_joysOf_1 (hs := hr1.1) (k9 := 6) (hf := rfl) cb_X4 ⟨by decide, rfl, gw_107⟩ ?_
  refine sx_iload_n dX0_joysOf_4 rfl rfl ?_
  obtain ⟨g9, h⟩ := sx_gd h
  refine sx_iald dX0_joysOf_5 hr1.2.2.2.2.2.1 (fun _ _ => rfl) (sx_ix_in g9) ?_
  refine sx_aload_n dX0_joysOf_6 rfl rfl ?_
  refine sx_getR dX0_joysOf_7 (hs := hk.1) (k9 := 2) (hf := rfl) cb_X0 ⟨by decide, rfl, gw_189⟩ ?_
  refine sx_iload_n dX0_joysOf_10 rfl rfl ?_
  obtain ⟨g9, h⟩ := sx_gd h
  refine sx_iald dX0_joysOf_11 hk.2.1 (fun _ _ => rfl) (sx_ix_in g9) ?_
  refine sx_imul dX0_joysOf_12 ?_
  refine sx_bipush (v := (10 : Int32)) dX0_joysOf_13 (by decide) ?_
  refine sx_idiv dX0_joysOf_15 (by decide) ?_
  obtain rfl := Option.some.inj h
  exact sx_iret dX0_joysOf_16 rfl hk9
theorem F0_joysOf_ck (l : Launch) (k : Nat) (hk : iCo k) (r1 : Nat) (hr1 : iSh r1) (v2 : Int32) (v3 : Int32) (q : SQ) {r : Int32 × SQ} (h : F0_joysOf k r1 v2 v3 q = some r) : CK shX vwCl KX tfX l yX0_joysOf cX0_joysOf 4 ((some .int)) 0 0 [.ref k, .ref r1, .int v2, .int v3] q (some (.int r.1)) r.2 :=
  CK.of mi_X0_joysOf (Nat.le_of_ble_eq_true rfl) (F0_joysOf_ok l k hk r1 hr1 v2 v3 q h ⟨rfl, rfl⟩)
theorem mi_X0_starsFor : sx_MI yX0_starsFor cX0_starsFor 4 ((some .int)) 3 := ⟨by decide, ⟨by decide, by decide, by decide +kernel⟩, gw_537, gw_63⟩
abbrev PF0_starsFor (l : Launch) (Q : Option Value → SQ → Prop) : Nat → List (Nat × Value) → List Value → SQ → Prop := XX shX vwCl KX tfX l RX0 cX0_starsFor 4 ((some .int)) { frames := 1, cells := 0, slots := 0, locals := 22 } Q
def F0_starsFor (k : Nat) (r1 : Nat) (v2 : Int32) (v3 : Int32) (q : SQ) : Option (Int32 × SQ) :=
  (F4_pagesIn r1 v2 v3 q).bind (fun z1 => (F4_givenOn r1 v3 (gI z1.2 k 0) z1.2).bind (fun z2 => (if sx_ix v2 8 = true then some ((((z1.1 * z2.1) * (gI z2.2 (r1 + 3) v2.toNatClampNeg)) * (gI z2.2 k 1)) / (100 : Int32), z2.2) else none)))
set_option maxHeartbeats 400000 in
theorem F0_starsFor_ok (l : Launch) (k : Nat) (hk : iCo k) (r1 : Nat) (hr1 : iSh r1) {Q : Option Value → SQ → Prop} (v2 : Int32) (v3 : Int32) (q : SQ) {res : Int32 × SQ} (h : F0_starsFor k r1 v2 v3 q = some res) (hk9 : Q (some (.int res.1)) res.2) : PF0_starsFor l Q 0 [(0, .ref k), (1, .ref r1), (2, .int v2), (3, .int v3)] [] q := by
  unfold F0_starsFor at h
  refine sx_aload_n dX0_starsFor_0 rfl rfl ?_
  refine sx_iload_n dX0_starsFor_1 rfl rfl ?_
  refine sx_iload_n dX0_starsFor_2 rfl rfl ?_
  obtain ⟨z1, hz1, h⟩ := sx_bd h
  refine sx_callV (o := r1) (As := [.int v2, .int v3]) (rest := []) KSX (F4_pagesIn_ck l r1 hr1 v2 v3 q hz1) mi_X4_pagesIn gw_538 rfl ⟨gw_527, gw_528⟩ hr1.1 rfl rfl ⟨Nat.le_of_ble_eq_true rfl, Nat.le_of_ble_eq_true rfl⟩ (Nat.le_of_ble_eq_true rfl) dX0_starsFor_3 rfl ?_
  refine sx_aload_n dX0_starsFor_6 rfl rfl ?_
  refine sx_iload_n dX0_starsFor_7 rfl rfl ?_
  refine sx_aload_n dX0_starsFor_8 rfl rfl ?_
  refine sx_getI dX0_starsFor_9 (hs := hk.1) (k9 := 0) (hf := rfl) cb_X0 ⟨by decide, rfl, gw_185⟩ ?_
  obtain ⟨z2, hz2, h⟩ := sx_bd h
  refine sx_callV (o := r1) (As := [.int v3, .int (gI z1.2 k 0)]) (rest := [.int z1.1]) KSX (F4_givenOn_ck l r1 hr1 v3 (gI z1.2 k 0) z1.2 hz2) mi_X4_givenOn gw_539 rfl ⟨gw_519, gw_520⟩ hr1.1 rfl rfl ⟨Nat.le_of_ble_eq_true rfl, Nat.le_of_ble_eq_true rfl⟩ (Nat.le_of_ble_eq_true rfl) dX0_starsFor_12 rfl ?_
  refine sx_imul dX0_starsFor_15 ?_
  refine sx_aload_n dX0_starsFor_16 rfl rfl ?_
  refine sx_getR dX0_starsFor_17 (hs := hr1.1) (k9 := 4) (hf := rfl) cb_X4 ⟨by decide, rfl, gw_103⟩ ?_
  refine sx_iload_n dX0_starsFor_20 rfl rfl ?_
  obtain ⟨g9, h⟩ := sx_gd h
  refine sx_iald dX0_starsFor_21 hr1.2.2.2.1 (fun _ _ => rfl) (sx_ix_in g9) ?_
  refine sx_imul dX0_starsFor_22 ?_
  refine sx_aload_n dX0_starsFor_23 rfl rfl ?_
  refine sx_getI dX0_starsFor_24 (hs := hk.1) (k9 := 1) (hf := rfl) cb_X0 ⟨by decide, rfl, gw_187⟩ ?_
  refine sx_imul dX0_starsFor_27 ?_
  refine sx_bipush (v := (100 : Int32)) dX0_starsFor_28 (by decide) ?_
  refine sx_idiv dX0_starsFor_30 (by decide) ?_
  obtain rfl := Option.some.inj h
  exact sx_iret dX0_starsFor_31 rfl hk9
theorem F0_starsFor_ck (l : Launch) (k : Nat) (hk : iCo k) (r1 : Nat) (hr1 : iSh r1) (v2 : Int32) (v3 : Int32) (q : SQ) {r : Int32 × SQ} (h : F0_starsFor k r1 v2 v3 q = some r) : CK shX vwCl KX tfX l yX0_starsFor cX0_starsFor 4 ((some .int)) 1 22 [.ref k, .ref r1, .int v2, .int v3] q (some (.int r.1)) r.2 :=
  CK.of mi_X0_starsFor (Nat.le_of_ble_eq_true rfl) (F0_starsFor_ok l k hk r1 hr1 v2 v3 q h ⟨rfl, rfl⟩)
theorem mi_X0_wantOf : sx_MI yX0_wantOf cX0_wantOf 5 ((some .int)) 3 := ⟨by decide, ⟨by decide, by decide, by decide +kernel⟩, gw_543, gw_63⟩
abbrev PF0_wantOf (l : Launch) (Q : Option Value → SQ → Prop) : Nat → List (Nat × Value) → List Value → SQ → Prop := XX shX vwCl KX tfX l RX0 cX0_wantOf 5 ((some .int)) { frames := 2, cells := 0, slots := 0, locals := 45 } Q
def F0_wantOf (k : Nat) (r1 : Nat) (v2 : Int32) (v3 : Int32) (q : SQ) : Option (Int32 × SQ) :=
  (F0_joysOf k r1 v2 v3 q).bind (fun z1 => sx_let z1.1 (fun x2 => (if gI z1.2 r1 11 = 0 then some (x2, z1.2) else (F0_starsFor k r1 v2 v3 z1.2).bind (fun z3 => some (x2 + z3.1, z3.2)))))
set_option maxHeartbeats 400000 in
theorem F0_wantOf_ok (l : Launch) (k : Nat) (hk : iCo k) (r1 : Nat) (hr1 : iSh r1) {Q : Option Value → SQ → Prop} (v2 : Int32) (v3 : Int32) (q : SQ) {res : Int32 × SQ} (h : F0_wantOf k r1 v2 v3 q = some res) (hk9 : Q (some (.int res.1)) res.2) : PF0_wantOf l Q 0 [(0, .ref k), (1, .ref r1), (2, .int v2), (3, .int v3)] [] q := by
  unfold F0_wantOf at h
  refine sx_aload_n dX0_wantOf_0 rfl rfl ?_
  refine sx_aload_n dX0_wantOf_1 rfl rfl ?_
  refine sx_iload_n dX0_wantOf_2 rfl rfl ?_
  refine sx_iload_n dX0_wantOf_3 rfl rfl ?_
  obtain ⟨z1, hz1, h⟩ := sx_bd h
  refine sx_callV (o := k) (As := [.ref r1, .int v2, .int v3]) (rest := []) KSX (F0_joysOf_ck l k hk r1 hr1 v2 v3 q hz1) mi_X0_joysOf gw_544 rfl ⟨gw_531, gw_532⟩ hk.1 rfl rfl ⟨Nat.le_of_ble_eq_true rfl, Nat.le_of_ble_eq_true rfl⟩ (Nat.le_of_ble_eq_true rfl) dX0_wantOf_4 rfl ?_
  obtain ⟨x2, ex2, h⟩ := sx_lt h
  refine sx_nmI ex2 ?_
  refine sx_istore (ls2 := [(4, .int x2), (0, .ref k), (1, .ref r1), (2, .int v2), (3, .int v3)]) dX0_wantOf_7 (by decide) rfl ?_
  refine sx_aload_n dX0_wantOf_9 rfl rfl ?_
  refine sx_getI dX0_wantOf_10 (hs := hr1.1) (k9 := 11) (hf := rfl) cb_X4 ⟨by decide, rfl, gw_119⟩ ?_
  refine sx_if_eq (tgt := 29) dX0_wantOf_13 (by decide) (fun c9 => ?_) (fun c9 => ?_)
  · replace h := sx_ip h c9
    refine sx_iload dX0_wantOf_29 rfl ?_
    obtain rfl := Option.some.inj h
    exact sx_iret dX0_wantOf_31 rfl hk9
  · replace h := sx_in h c9
    refine sx_iload dX0_wantOf_16 rfl ?_
    refine sx_aload_n dX0_wantOf_18 rfl rfl ?_
    refine sx_aload_n dX0_wantOf_19 rfl rfl ?_
    refine sx_iload_n dX0_wantOf_20 rfl rfl ?_
    refine sx_iload_n dX0_wantOf_21 rfl rfl ?_
    obtain ⟨z3, hz3, h⟩ := sx_bd h
    refine sx_callV (o := k) (As := [.ref r1, .int v2, .int v3]) (rest := [.int x2]) KSX (F0_starsFor_ck l k hk r1 hr1 v2 v3 z1.2 hz3) mi_X0_starsFor gw_545 rfl ⟨gw_535, gw_536⟩ hk.1 rfl rfl ⟨Nat.le_of_ble_eq_true rfl, Nat.le_of_ble_eq_true rfl⟩ (Nat.le_of_ble_eq_true rfl) dX0_wantOf_22 rfl ?_
    refine sx_iadd dX0_wantOf_25 ?_
    refine sx_goto (tgt := 31) dX0_wantOf_26 (by decide) ?_
    obtain rfl := Option.some.inj h
    exact sx_iret dX0_wantOf_31 rfl hk9
theorem F0_wantOf_ck (l : Launch) (k : Nat) (hk : iCo k) (r1 : Nat) (hr1 : iSh r1) (v2 : Int32) (v3 : Int32) (q : SQ) {r : Int32 × SQ} (h : F0_wantOf k r1 v2 v3 q = some r) : CK shX vwCl KX tfX l yX0_wantOf cX0_wantOf 5 ((some .int)) 2 45 [.ref k, .ref r1, .int v2, .int v3] q (some (.int r.1)) r.2 :=
  CK.of mi_X0_wantOf (Nat.le_of_ble_eq_true rfl) (F0_wantOf_ok l k hk r1 hr1 v2 v3 q h ⟨rfl, rfl⟩)
theorem mi_X6_want : sx_MI yX6_want cX6_want 4 ((some .int)) 3 := ⟨by decide, ⟨by decide, by decide, by decide +kernel⟩, gw_525, gw_60⟩
abbrev PF6_want (l : Launch) (Q : Option Value → SQ → Prop) : Nat → List (Nat × Value) → List Value → SQ → Prop := XX shX vwCl KX tfX l RX6 cX6_want 4 ((some .int)) { frames := 3, cells := 0, slots := 0, locals := 69 } Q
def F6_want_16   (q : SQ) : Option (Int32 × SQ) :=
  some ((-1 : Int32), q)
set_option maxHeartbeats 400000 in
theorem F6_want_16_ok (l : Launch)  {Q : Option Value → SQ → Prop}  (q : SQ) {res : Int32 × SQ} (h : F6_want_16   q = some res) (hk9 : Q (some (.int res.1)) res.2) : PF6_want l Q 16 [] [] q := by
  unfold F6_want_16 at h
  refine sx_iconst (v := (-1 : Int32)) dX6_want_16 (by decide) ?_
  obtain rfl := Option.some.inj h
  exact sx_iret dX6_want_17 rfl hk9
def F6_want  (v1 : Int32) (v2 : Int32) (v3 : Int32) (q : SQ) : Option (Int32 × SQ) :=
  (F6_isChild  v1 q).bind (fun z1 => (if z1.1 = 0 then F6_want_16   z1.2 else (F6_isSort  v2 z1.2).bind (fun z2 => (if z2.1 = 0 then F6_want_16   z2.2 else (if v3 = (0 : Int32) then (F4_pagesIn 1 v1 v2 z2.2).bind (fun z3 => some (z3.1, z3.2)) else (if v3 = (1 : Int32) then (F0_joysOf 19 1 v1 v2 z2.2).bind (fun z4 => some (z4.1, z4.2)) else (if v3 = (2 : Int32) then (F0_starsFor 19 1 v1 v2 z2.2).bind (fun z5 => some (z5.1, z5.2)) else (if v3 = (3 : Int32) then (F0_wantOf 19 1 v1 v2 z2.2).bind (fun z6 => some (z6.1, z6.2)) else some ((-1 : Int32), z2.2)))))))))
set_option maxHeartbeats 400000 in
theorem F6_want_ok (l : Launch)  {Q : Option Value → SQ → Prop} (v1 : Int32) (v2 : Int32) (v3 : Int32) (q : SQ) {res : Int32 × SQ} (h : F6_want  v1 v2 v3 q = some res) (hk9 : Q (some (.int res.1)) res.2) : PF6_want l Q 0 [(0, .ref 0), (1, .int v1), (2, .int v2), (3, .int v3)] [] q := by
  unfold F6_want at h
  refine sx_aload_n dX6_want_0 rfl rfl ?_
  refine sx_iload_n dX6_want_1 rfl rfl ?_
  obtain ⟨z1, hz1, h⟩ := sx_bd h
  refine sx_callV (o := 0) (As := [.int v1]) (rest := []) KSX (F6_isChild_ck l  v1 q hz1) mi_X6_isChild gw_489 rfl ⟨gw_491, gw_13⟩ shX_0 rfl rfl ⟨Nat.le_of_ble_eq_true rfl, Nat.le_of_ble_eq_true rfl⟩ (Nat.le_of_ble_eq_true rfl) dX6_want_2 rfl ?_
  refine sx_if_eq (tgt := 16) dX6_want_5 (by decide) (fun c9 => ?_) (fun c9 => ?_)
  · replace h := sx_ip h c9
    refine sx_locs [] rfl ?_
    exact F6_want_16_ok l   z1.2 h hk9
  · replace h := sx_in h c9
    refine sx_aload_n dX6_want_8 rfl rfl ?_
    refine sx_iload_n dX6_want_9 rfl rfl ?_
    obtain ⟨z2, hz2, h⟩ := sx_bd h
    refine sx_callV (o := 0) (As := [.int v2]) (rest := []) KSX (F6_isSort_ck l  v2 z1.2 hz2) mi_X6_isSort gw_497 rfl ⟨gw_499, gw_14⟩ shX_0 rfl rfl ⟨Nat.le_of_ble_eq_true rfl, Nat.le_of_ble_eq_true rfl⟩ (Nat.le_of_ble_eq_true rfl) dX6_want_10 rfl ?_
    refine sx_if_ne (tgt := 18) dX6_want_13 (by decide) (fun c9 => ?_) (fun c9 => ?_)
    · replace h := sx_in h c9
      refine sx_iload_n dX6_want_18 rfl rfl ?_
      by_cases c9_0 : v3 = (0 : Int32)
      · replace h := sx_ip h c9_0
        refine sx_tblIn (tgt := 48) dX6_want_19 (by rw [c9_0]; decide) (by rw [c9_0]; decide) (by rw [c9_0]; rfl) (by decide) ?_
        refine sx_aload_n dX6_want_48 rfl rfl ?_
        refine sx_getR dX6_want_49 (hs := shX_0) (k9 := 0) (hf := rfl) cb_X6 ⟨by decide, rfl, gw_292⟩ ?_
        refine sx_iload_n dX6_want_52 rfl rfl ?_
        refine sx_iload_n dX6_want_53 rfl rfl ?_
        obtain ⟨z3, hz3, h⟩ := sx_bd h
        refine sx_callV (o := 1) (As := [.int v1, .int v2]) (rest := []) KSX (F4_pagesIn_ck l 1 iSh_1 v1 v2 z2.2 hz3) mi_X4_pagesIn gw_526 rfl ⟨gw_527, gw_528⟩ shX_1 rfl rfl ⟨Nat.le_of_ble_eq_true rfl, Nat.le_of_ble_eq_true rfl⟩ (Nat.le_of_ble_eq_true rfl) dX6_want_54 rfl ?_
        obtain rfl := Option.some.inj h
        exact sx_iret dX6_want_57 rfl hk9
      · replace h := sx_in h c9_0
        by_cases c9_1 : v3 = (1 : Int32)
        · replace h := sx_ip h c9_1
          refine sx_tblIn (tgt := 58) dX6_want_19 (by rw [c9_1]; decide) (by rw [c9_1]; decide) (by rw [c9_1]; rfl) (by decide) ?_
          refine sx_aload_n dX6_want_58 rfl rfl ?_
          refine sx_getR dX6_want_59 (hs := shX_0) (k9 := 2) (hf := rfl) cb_X6 ⟨by decide, rfl, gw_294⟩ ?_
          refine sx_aload_n dX6_want_62 rfl rfl ?_
          refine sx_getR dX6_want_63 (hs := shX_0) (k9 := 0) (hf := rfl) cb_X6 ⟨by decide, rfl, gw_292⟩ ?_
          refine sx_iload_n dX6_want_66 rfl rfl ?_
          refine sx_iload_n dX6_want_67 rfl rfl ?_
          obtain ⟨z4, hz4, h⟩ := sx_bd h
          refine sx_callV (o := 19) (As := [.ref 1, .int v1, .int v2]) (rest := []) KSX (F0_joysOf_ck l 19 iCo_19 1 iSh_1 v1 v2 z2.2 hz4) mi_X0_joysOf gw_530 rfl ⟨gw_531, gw_532⟩ shX_19 rfl rfl ⟨Nat.le_of_ble_eq_true rfl, Nat.le_of_ble_eq_true rfl⟩ (Nat.le_of_ble_eq_true rfl) dX6_want_68 rfl ?_
          obtain rfl := Option.some.inj h
          exact sx_iret dX6_want_71 rfl hk9
        · replace h := sx_in h c9_1
          by_cases c9_2 : v3 = (2 : Int32)
          · replace h := sx_ip h c9_2
            refine sx_tblIn (tgt := 72) dX6_want_19 (by rw [c9_2]; decide) (by rw [c9_2]; decide) (by rw [c9_2]; rfl) (by decide) ?_
            refine sx_aload_n dX6_want_72 rfl rfl ?_
            refine sx_getR dX6_want_73 (hs := shX_0) (k9 := 2) (hf := rfl) cb_X6 ⟨by decide, rfl, gw_294⟩ ?_
            refine sx_aload_n dX6_want_76 rfl rfl ?_
            refine sx_getR dX6_want_77 (hs := shX_0) (k9 := 0) (hf := rfl) cb_X6 ⟨by decide, rfl, gw_292⟩ ?_
            refine sx_iload_n dX6_want_80 rfl rfl ?_
            refine sx_iload_n dX6_want_81 rfl rfl ?_
            obtain ⟨z5, hz5, h⟩ := sx_bd h
            refine sx_callV (o := 19) (As := [.ref 1, .int v1, .int v2]) (rest := []) KSX (F0_starsFor_ck l 19 iCo_19 1 iSh_1 v1 v2 z2.2 hz5) mi_X0_starsFor gw_534 rfl ⟨gw_535, gw_536⟩ shX_19 rfl rfl ⟨Nat.le_of_ble_eq_true rfl, Nat.le_of_ble_eq_true rfl⟩ (Nat.le_of_ble_eq_true rfl) dX6_want_82 rfl ?_
            obtain rfl := Option.some.inj h
            exact sx_iret dX6_want_85 rfl hk9
          · replace h := sx_in h c9_2
            by_cases c9_3 : v3 = (3 : Int32)
            · replace h := sx_ip h c9_3
              refine sx_tblIn (tgt := 86) dX6_want_19 (by rw [c9_3]; decide) (by rw [c9_3]; decide) (by rw [c9_3]; rfl) (by decide) ?_
              refine sx_aload_n dX6_want_86 rfl rfl ?_
              refine sx_getR dX6_want_87 (hs := shX_0) (k9 := 2) (hf := rfl) cb_X6 ⟨by decide, rfl, gw_294⟩ ?_
              refine sx_aload_n dX6_want_90 rfl rfl ?_
              refine sx_getR dX6_want_91 (hs := shX_0) (k9 := 0) (hf := rfl) cb_X6 ⟨by decide, rfl, gw_292⟩ ?_
              refine sx_iload_n dX6_want_94 rfl rfl ?_
              refine sx_iload_n dX6_want_95 rfl rfl ?_
              obtain ⟨z6, hz6, h⟩ := sx_bd h
              refine sx_callV (o := 19) (As := [.ref 1, .int v1, .int v2]) (rest := []) KSX (F0_wantOf_ck l 19 iCo_19 1 iSh_1 v1 v2 z2.2 hz6) mi_X0_wantOf gw_540 rfl ⟨gw_541, gw_542⟩ shX_19 rfl rfl ⟨Nat.le_of_ble_eq_true rfl, Nat.le_of_ble_eq_true rfl⟩ (Nat.le_of_ble_eq_true rfl) dX6_want_96 rfl ?_
              obtain rfl := Option.some.inj h
              exact sx_iret dX6_want_99 rfl hk9
            · replace h := sx_in h c9_3
              have n0 := lv_neT c9_0 (a := 0) (by decide)
              have n1 := lv_neT c9_1 (a := 1) (by decide)
              have n2 := lv_neT c9_2 (a := 2) (by decide)
              have n3 := lv_neT c9_3 (a := 3) (by decide)
              refine sx_tblOut (tgt := 100) dX6_want_19 (by omega) (by decide) ?_
              refine sx_iconst (v := (-1 : Int32)) dX6_want_100 (by decide) ?_
              obtain rfl := Option.some.inj h
              exact sx_iret dX6_want_101 rfl hk9
    · replace h := sx_ip h c9
      refine sx_locs [] rfl ?_
      exact F6_want_16_ok l   z2.2 h hk9
theorem F6_want_ck (l : Launch)  (v1 : Int32) (v2 : Int32) (v3 : Int32) (q : SQ) {r : Int32 × SQ} (h : F6_want  v1 v2 v3 q = some r) : CK shX vwCl KX tfX l yX6_want cX6_want 4 ((some .int)) 3 69 [.ref 0, .int v1, .int v2, .int v3] q (some (.int r.1)) r.2 :=
  CK.of mi_X6_want (Nat.le_of_ble_eq_true rfl) (F6_want_ok l  v1 v2 v3 q h ⟨rfl, rfl⟩)
theorem mi_X0_choiceOf : sx_MI yX0_choiceOf cX0_choiceOf 8 ((some .int)) 3 := ⟨by decide, ⟨by decide, by decide, by decide +kernel⟩, gw_553, gw_63⟩
abbrev PF0_choiceOf (l : Launch) (Q : Option Value → SQ → Prop) : Nat → List (Nat × Value) → List Value → SQ → Prop := XX shX vwCl KX tfX l RX0 cX0_choiceOf 8 ((some .int)) { frames := 3, cells := 0, slots := 0, locals := 69 } Q
def F0_choiceOf_46 (k : Nat) (r1 : Nat) (v2 : Int32) (v4 : Int32) (v5 : Int32) (v6 : Int32) (q : SQ) : Option ((Int32 × Int32 × Int32 × SQ) ⊕ (Int32 × SQ)) :=
  sx_let (v6 + (1 : Int32)) (fun x4 => some (.inl (v4, v5, x4, q)))
set_option maxHeartbeats 400000 in
theorem F0_choiceOf_46_ok (l : Launch) (k : Nat) (hk : iCo k) (r1 : Nat) (hr1 : iSh r1) {Q : Option Value → SQ → Prop} (v2 : Int32) (v4 : Int32) (v5 : Int32) (v6 : Int32) (q : SQ) {res : (Int32 × Int32 × Int32 × SQ) ⊕ (Int32 × SQ)} (h : F0_choiceOf_46 k r1 v2 v4 v5 v6 q = some res) (hk9 : (∀ a5, res = .inl a5 → PF0_choiceOf l Q 12 [(0, .ref k), (1, .ref r1), (2, .int v2), (4, .int a5.1), (5, .int a5.2.1), (6, .int a5.2.2.1)] [] a5.2.2.2) ∧ (∀ b6, res = .inr b6 → Q (some (.int b6.1)) b6.2)) : PF0_choiceOf l Q 46 [(0, .ref k), (1, .ref r1), (2, .int v2), (4, .int v4), (5, .int v5), (6, .int v6)] [] q := by
  unfold F0_choiceOf_46 at h
  obtain ⟨x4, ex4, h⟩ := sx_lt h
  refine sx_iinc (k9 := 5) (v := x4) (ls2 := [(6, .int x4), (0, .ref k), (1, .ref r1), (2, .int v2), (4, .int v4), (5, .int v5)]) dX0_choiceOf_46 rfl (by rw [ex4, sx_ofI1]) (by decide) rfl ?_
  refine sx_goto (tgt := 12) dX0_choiceOf_49 (by decide) ?_
  refine sx_locs [1, 2, 3, 4, 5, 0] rfl ?_
  exact hk9.1 (v4, v5, x4, q) (Option.some.inj h).symm
def F0_choiceOf_12b (k : Nat) (r1 : Nat) (v2 : Int32) (v4 : Int32) (v5 : Int32) (v6 : Int32) (q : SQ) : Option ((Int32 × Int32 × Int32 × SQ) ⊕ (Int32 × SQ)) :=
  (if gI q r1 1 ≤ v6 then some (.inr (v4, q)) else (F0_wantOf k r1 v2 v6 q).bind (fun z2 => sx_let z2.1 (fun x3 => (if x3 ≤ v5 then F0_choiceOf_46 k r1 v2 v4 v5 v6 z2.2 else F0_choiceOf_46 k r1 v2 v6 x3 v6 z2.2))))
set_option maxHeartbeats 400000 in
theorem F0_choiceOf_12b_ok (l : Launch) (k : Nat) (hk : iCo k) (r1 : Nat) (hr1 : iSh r1) {Q : Option Value → SQ → Prop} (v2 : Int32) (v4 : Int32) (v5 : Int32) (v6 : Int32) (q : SQ) {res : (Int32 × Int32 × Int32 × SQ) ⊕ (Int32 × SQ)} (h : F0_choiceOf_12b k r1 v2 v4 v5 v6 q = some res) (hk9 : (∀ a7, res = .inl a7 → PF0_choiceOf l Q 12 [(0, .ref k), (1, .ref r1), (2, .int v2), (4, .int a7.1), (5, .int a7.2.1), (6, .int a7.2.2.1)] [] a7.2.2.2) ∧ (∀ b8, res = .inr b8 → Q (some (.int b8.1)) b8.2)) : PF0_choiceOf l Q 12 [(0, .ref k), (1, .ref r1), (2, .int v2), (4, .int v4), (5, .int v5), (6, .int v6)] [] q := by
  unfold F0_choiceOf_12b at h
  refine sx_iload dX0_choiceOf_12 rfl ?_
  refine sx_aload_n dX0_choiceOf_14 rfl rfl ?_
  refine sx_getI dX0_choiceOf_15 (hs := hr1.1) (k9 := 1) (hf := rfl) cb_X4 ⟨by decide, rfl, gw_93⟩ ?_
  refine sx_icmp_ge (tgt := 52) dX0_choiceOf_18 (by decide) (fun c9 => ?_) (fun c9 => ?_)
  · replace h := sx_ip h c9
    refine sx_iload dX0_choiceOf_52 rfl ?_
    have hk9 := hk9.2 _ (Option.some.inj h).symm
    exact sx_iret dX0_choiceOf_54 rfl hk9
  · replace h := sx_in h c9
    refine sx_aload_n dX0_choiceOf_21 rfl rfl ?_
    refine sx_aload_n dX0_choiceOf_22 rfl rfl ?_
    refine sx_iload_n dX0_choiceOf_23 rfl rfl ?_
    refine sx_iload dX0_choiceOf_24 rfl ?_
    obtain ⟨z2, hz2, h⟩ := sx_bd h
    refine sx_callV (o := k) (As := [.ref r1, .int v2, .int v6]) (rest := []) KSX (F0_wantOf_ck l k hk r1 hr1 v2 v6 q hz2) mi_X0_wantOf gw_554 rfl ⟨gw_541, gw_542⟩ hk.1 rfl rfl ⟨Nat.le_of_ble_eq_true rfl, Nat.le_of_ble_eq_true rfl⟩ (Nat.le_of_ble_eq_true rfl) dX0_choiceOf_26 rfl ?_
    obtain ⟨x3, ex3, h⟩ := sx_lt h
    refine sx_nmI ex3 ?_
    refine sx_istore (ls2 := [(7, .int x3), (0, .ref k), (1, .ref r1), (2, .int v2), (4, .int v4), (5, .int v5), (6, .int v6)]) dX0_choiceOf_29 (by decide) rfl ?_
    refine sx_iload dX0_choiceOf_31 rfl ?_
    refine sx_iload dX0_choiceOf_33 rfl ?_
    refine sx_icmp_le (tgt := 46) dX0_choiceOf_35 (by decide) (fun c9 => ?_) (fun c9 => ?_)
    · replace h := sx_ip h c9
      refine sx_locs [1, 2, 3, 4, 5, 6] rfl ?_
      exact F0_choiceOf_46_ok l k hk r1 hr1 v2 v4 v5 v6 z2.2 h hk9
    · replace h := sx_in h c9
      refine sx_iload dX0_choiceOf_38 rfl ?_
      refine sx_istore (ls2 := [(4, .int v6), (7, .int x3), (0, .ref k), (1, .ref r1), (2, .int v2), (5, .int v5), (6, .int v6)]) dX0_choiceOf_40 (by decide) rfl ?_
      refine sx_iload dX0_choiceOf_42 rfl ?_
      refine sx_istore (ls2 := [(5, .int x3), (4, .int v6), (7, .int x3), (0, .ref k), (1, .ref r1), (2, .int v2), (6, .int v6)]) dX0_choiceOf_44 (by decide) rfl ?_
      refine sx_locs [3, 4, 5, 1, 0, 6] rfl ?_
      exact F0_choiceOf_46_ok l k hk r1 hr1 v2 v6 x3 v6 z2.2 h hk9
def F0_choiceOf_12 (k : Nat) (r1 : Nat) (v2 : Int32) (v4 : Int32) (v5 : Int32) (v6 : Int32) (q : SQ) : Option (Int32 × SQ) := sx_loop (fun s9 => F0_choiceOf_12b k r1 v2 s9.1 s9.2.1 s9.2.2.1 s9.2.2.2) FU (v4, v5, v6, q)
set_option maxHeartbeats 400000 in
theorem F0_choiceOf_12_ok (l : Launch) (k : Nat) (hk : iCo k) (r1 : Nat) (hr1 : iSh r1) {Q : Option Value → SQ → Prop} (v2 : Int32) (v4 : Int32) (v5 : Int32) (v6 : Int32) (q : SQ) {t : Int32 × SQ} (h : F0_choiceOf_12 k r1 v2 v4 v5 v6 q = some t) (hk9 : Q (some (.int t.1)) t.2) : PF0_choiceOf l Q 12 [(0, .ref k), (1, .ref r1), (2, .int v2), (4, .int v4), (5, .int v5), (6, .int v6)] [] q := by
  unfold F0_choiceOf_12 at h
  have st : ∀ (s : Int32 × Int32 × Int32 × SQ) (res : (Int32 × Int32 × Int32 × SQ) ⊕ (Int32 × SQ)), F0_choiceOf_12b k r1 v2 s.1 s.2.1 s.2.2.1 s.2.2.2 = some res → (∀ s2, res = .inl s2 → PF0_choiceOf l Q 12 [(0, .ref k), (1, .ref r1), (2, .int v2), (4, .int s2.1), (5, .int s2.2.1), (6, .int s2.2.2.1)] [] s2.2.2.2) → (∀ t2, res = .inr t2 → Q (some (.int t2.1)) t2.2) → PF0_choiceOf l Q 12 [(0, .ref k), (1, .ref r1), (2, .int v2), (4, .int s.1), (5, .int s.2.1), (6, .int s.2.2.1)] [] s.2.2.2 :=
    fun s res hb hi ho => F0_choiceOf_12b_ok l k hk r1 hr1 v2 s.1 s.2.1 s.2.2.1 s.2.2.2 hb ⟨hi, ho⟩
  have h9 : PF0_choiceOf l Q 12 [(0, .ref k), (1, .ref r1), (2, .int v2), (4, .int v4), (5, .int v5), (6, .int v6)] [] q := sx_lp (body := fun s => F0_choiceOf_12b k r1 v2 s.1 s.2.1 s.2.2.1 s.2.2.2) (P := fun s => PF0_choiceOf l Q 12 [(0, .ref k), (1, .ref r1), (2, .int v2), (4, .int s.1), (5, .int s.2.1), (6, .int s.2.2.1)] [] s.2.2.2) (T := fun t => Q (some (.int t.1)) t.2) st FU (v4, v5, v6, q) t h hk9
  exact h9
def F0_choiceOf (k : Nat) (r1 : Nat) (v2 : Int32) (v3 : Int32) (q : SQ) : Option (Int32 × SQ) :=
  sx_let (v3 - (1 : Int32)) (fun x1 => F0_choiceOf_12 k r1 v2 (-9 : Int32) x1 (0 : Int32) q)
set_option maxHeartbeats 400000 in
theorem F0_choiceOf_ok (l : Launch) (k : Nat) (hk : iCo k) (r1 : Nat) (hr1 : iSh r1) {Q : Option Value → SQ → Prop} (v2 : Int32) (v3 : Int32) (q : SQ) {res : Int32 × SQ} (h : F0_choiceOf k r1 v2 v3 q = some res) (hk9 : Q (some (.int res.1)) res.2) : PF0_choiceOf l Q 0 [(0, .ref k), (1, .ref r1), (2, .int v2), (3, .int v3)] [] q := by
  unfold F0_choiceOf at h
  refine sx_bipush (v := (-9 : Int32)) dX0_choiceOf_0 (by decide) ?_
  refine sx_istore (ls2 := [(4, .int (-9 : Int32)), (0, .ref k), (1, .ref r1), (2, .int v2), (3, .int v3)]) dX0_choiceOf_2 (by decide) rfl ?_
  refine sx_iload_n dX0_choiceOf_4 rfl rfl ?_
  refine sx_iconst (v := (1 : Int32)) dX0_choiceOf_5 (by decide) ?_
  refine sx_isub dX0_choiceOf_6 ?_
  obtain ⟨x1, ex1, h⟩ := sx_lt h
  refine sx_nmI ex1 ?_
  refine sx_istore (ls2 := [(5, .int x1), (4, .int (-9 : Int32)), (0, .ref k), (1, .ref r1), (2, .int v2), (3, .int v3)]) dX0_choiceOf_7 (by decide) rfl ?_
  refine sx_iconst (v := (0 : Int32)) dX0_choiceOf_9 (by decide) ?_
  refine sx_istore (ls2 := [(6, .int (0 : Int32)), (5, .int x1), (4, .int (-9 : Int32)), (0, .ref k), (1, .ref r1), (2, .int v2), (3, .int v3)]) dX0_choiceOf_10 (by decide) rfl ?_
  refine sx_locs [3, 4, 5, 2, 1, 0] rfl ?_
  exact F0_choiceOf_12_ok l k hk r1 hr1 v2 (-9 : Int32) x1 (0 : Int32) q h hk9
theorem F0_choiceOf_ck (l : Launch) (k : Nat) (hk : iCo k) (r1 : Nat) (hr1 : iSh r1) (v2 : Int32) (v3 : Int32) (q : SQ) {r : Int32 × SQ} (h : F0_choiceOf k r1 v2 v3 q = some r) : CK shX vwCl KX tfX l yX0_choiceOf cX0_choiceOf 8 ((some .int)) 3 69 [.ref k, .ref r1, .int v2, .int v3] q (some (.int r.1)) r.2 :=
  CK.of mi_X0_choiceOf (Nat.le_of_ble_eq_true rfl) (F0_choiceOf_ok l k hk r1 hr1 v2 v3 q h ⟨rfl, rfl⟩)
theorem mi_X6_choice : sx_MI yX6_choice cX6_choice 2 ((some .int)) 1 := ⟨by decide, ⟨by decide, by decide, by decide +kernel⟩, gw_549, gw_60⟩
abbrev PF6_choice (l : Launch) (Q : Option Value → SQ → Prop) : Nat → List (Nat × Value) → List Value → SQ → Prop := XX shX vwCl KX tfX l RX6 cX6_choice 2 ((some .int)) { frames := 4, cells := 0, slots := 0, locals := 96 } Q
def F6_choice  (v1 : Int32) (q : SQ) : Option (Int32 × SQ) :=
  (F6_isChild  v1 q).bind (fun z1 => (if z1.1 = 0 then some ((-1 : Int32), z1.2) else (F0_choiceOf 19 1 v1 (gI z1.2 23 0) z1.2).bind (fun z2 => some (z2.1, z2.2))))
set_option maxHeartbeats 400000 in
theorem F6_choice_ok (l : Launch)  {Q : Option Value → SQ → Prop} (v1 : Int32) (q : SQ) {res : Int32 × SQ} (h : F6_choice  v1 q = some res) (hk9 : Q (some (.int res.1)) res.2) : PF6_choice l Q 0 [(0, .ref 0), (1, .int v1)] [] q := by
  unfold F6_choice at h
  refine sx_aload_n dX6_choice_0 rfl rfl ?_
  refine sx_iload_n dX6_choice_1 rfl rfl ?_
  obtain ⟨z1, hz1, h⟩ := sx_bd h
  refine sx_callV (o := 0) (As := [.int v1]) (rest := []) KSX (F6_isChild_ck l  v1 q hz1) mi_X6_isChild gw_489 rfl ⟨gw_491, gw_13⟩ shX_0 rfl rfl ⟨Nat.le_of_ble_eq_true rfl, Nat.le_of_ble_eq_true rfl⟩ (Nat.le_of_ble_eq_true rfl) dX6_choice_2 rfl ?_
  refine sx_if_eq (tgt := 29) dX6_choice_5 (by decide) (fun c9 => ?_) (fun c9 => ?_)
  · replace h := sx_ip h c9
    refine sx_iconst (v := (-1 : Int32)) dX6_choice_29 (by decide) ?_
    obtain rfl := Option.some.inj h
    exact sx_iret dX6_choice_30 rfl hk9
  · replace h := sx_in h c9
    refine sx_aload_n dX6_choice_8 rfl rfl ?_
    refine sx_getR dX6_choice_9 (hs := shX_0) (k9 := 2) (hf := rfl) cb_X6 ⟨by decide, rfl, gw_294⟩ ?_
    refine sx_aload_n dX6_choice_12 rfl rfl ?_
    refine sx_getR dX6_choice_13 (hs := shX_0) (k9 := 0) (hf := rfl) cb_X6 ⟨by decide, rfl, gw_292⟩ ?_
    refine sx_iload_n dX6_choice_16 rfl rfl ?_
    refine sx_aload_n dX6_choice_17 rfl rfl ?_
    refine sx_getR dX6_choice_18 (hs := shX_0) (k9 := 3) (hf := rfl) cb_X6 ⟨by decide, rfl, gw_295⟩ ?_
    refine sx_iconst (v := (0 : Int32)) dX6_choice_21 (by decide) ?_
    refine sx_ialdC (j9 := 0) dX6_choice_22 shX_23 (fun _ _ => rfl) (by decide) (by decide) ?_
    obtain ⟨z2, hz2, h⟩ := sx_bd h
    refine sx_callV (o := 19) (As := [.ref 1, .int v1, .int (gI z1.2 23 0)]) (rest := []) KSX (F0_choiceOf_ck l 19 iCo_19 1 iSh_1 v1 (gI z1.2 23 0) z1.2 hz2) mi_X0_choiceOf gw_550 rfl ⟨gw_551, gw_552⟩ shX_19 rfl rfl ⟨Nat.le_of_ble_eq_true rfl, Nat.le_of_ble_eq_true rfl⟩ (Nat.le_of_ble_eq_true rfl) dX6_choice_23 rfl ?_
    refine sx_goto (tgt := 30) dX6_choice_26 (by decide) ?_
    obtain rfl := Option.some.inj h
    exact sx_iret dX6_choice_30 rfl hk9
theorem F6_choice_ck (l : Launch)  (v1 : Int32) (q : SQ) {r : Int32 × SQ} (h : F6_choice  v1 q = some r) : CK shX vwCl KX tfX l yX6_choice cX6_choice 2 ((some .int)) 4 96 [.ref 0, .int v1] q (some (.int r.1)) r.2 :=
  CK.of mi_X6_choice (Nat.le_of_ble_eq_true rfl) (F6_choice_ok l  v1 q h ⟨rfl, rfl⟩)
theorem mi_X0_likingBehind : sx_MI yX0_likingBehind cX0_likingBehind 9 ((some .int)) 4 := ⟨by decide, ⟨by decide, by decide, by decide +kernel⟩, gw_570, gw_63⟩
abbrev PF0_likingBehind (l : Launch) (Q : Option Value → SQ → Prop) : Nat → List (Nat × Value) → List Value → SQ → Prop := XX shX vwCl KX tfX l RX0 cX0_likingBehind 9 ((some .int)) { frames := 3, cells := 0, slots := 0, locals := 69 } Q
def F0_likingBehind_108 (k : Nat) (r1 : Nat) (v6 : Int32) (q : SQ) : Option (Int32 × SQ) :=
  some (if (0 : Int32) < if v6 < (100 : Int32) then v6 else (100 : Int32) then if v6 < (100 : Int32) then v6 else (100 : Int32) else (0 : Int32), q)
set_option maxHeartbeats 400000 in
theorem F0_likingBehind_108_ok (l : Launch) (k : Nat) (hk : iCo k) (r1 : Nat) (hr1 : iSh r1) {Q : Option Value → SQ → Prop} (v6 : Int32) (q : SQ) {res : Int32 × SQ} (h : F0_likingBehind_108 k r1 v6 q = some res) (hk9 : Q (some (.int res.1)) res.2) : PF0_likingBehind l Q 108 [(6, .int v6)] [] q := by
  unfold F0_likingBehind_108 at h
  refine sx_iconst (v := (0 : Int32)) dX0_likingBehind_108 (by decide) ?_
  refine sx_bipush (v := (100 : Int32)) dX0_likingBehind_109 (by decide) ?_
  refine sx_iload dX0_likingBehind_111 rfl ?_
  refine sx_mmin dX0_likingBehind_113 gw_571 gw_mmin (by decide) (Nat.le_of_ble_eq_true rfl) ?_
  refine sx_mmax dX0_likingBehind_116 gw_572 gw_mmax (by decide) (Nat.le_of_ble_eq_true rfl) ?_
  obtain rfl := Option.some.inj h
  exact sx_iret dX0_likingBehind_119 rfl hk9
def F0_likingBehind_30 (k : Nat) (r1 : Nat) (v3 : Int32) (v4 : Int32) (v5 : Int32) (v6 : Int32) (q : SQ) : Option (Int32 × SQ) :=
  (if gI q r1 11 = 0 then (F4_givenOn r1 v4 (gI q k 0) q).bind (fun z4 => (if v5 * z4.1 ≤ 0 then F0_likingBehind_108 k r1 v6 z4.2 else sx_let (v6 + (gI z4.2 23 3)) (fun x5 => F0_likingBehind_108 k r1 x5 z4.2))) else (F0_starsFor k r1 v3 v4 q).bind (fun z6 => sx_let z6.1 (fun x7 => (F0_wantOf k r1 v3 v4 z6.2).bind (fun z8 => sx_let z8.1 (fun x9 => (if x7 ≤ 0 then F0_likingBehind_108 k r1 v6 z8.2 else (if x9 ≤ 0 then F0_likingBehind_108 k r1 v6 z8.2 else (if sx_n0 x9 = true then sx_let (v6 - (((gI z8.2 23 2) * x7) / x9)) (fun x10 => F0_likingBehind_108 k r1 x10 z8.2) else none))))))))
set_option maxHeartbeats 400000 in
theorem F0_likingBehind_30_ok (l : Launch) (k : Nat) (hk : iCo k) (r1 : Nat) (hr1 : iSh r1) {Q : Option Value → SQ → Prop} (v3 : Int32) (v4 : Int32) (v5 : Int32) (v6 : Int32) (q : SQ) {res : Int32 × SQ} (h : F0_likingBehind_30 k r1 v3 v4 v5 v6 q = some res) (hk9 : Q (some (.int res.1)) res.2) : PF0_likingBehind l Q 30 [(0, .ref k), (1, .ref r1), (2, .ref 23), (3, .int v3), (4, .int v4), (5, .int v5), (6, .int v6)] [] q := by
  unfold F0_likingBehind_30 at h
  refine sx_aload_n dX0_likingBehind_30 rfl rfl ?_
  refine sx_getI dX0_likingBehind_31 (hs := hr1.1) (k9 := 11) (hf := rfl) cb_X4 ⟨by decide, rfl, gw_119⟩ ?_
  refine sx_if_eq (tgt := 84) dX0_likingBehind_34 (by decide) (fun c9 => ?_) (fun c9 => ?_)
  · replace h := sx_ip h c9
    refine sx_iload dX0_likingBehind_84 rfl ?_
    refine sx_aload_n dX0_likingBehind_86 rfl rfl ?_
    refine sx_iload dX0_likingBehind_87 rfl ?_
    refine sx_aload_n dX0_likingBehind_89 rfl rfl ?_
    refine sx_getI dX0_likingBehind_90 (hs := hk.1) (k9 := 0) (hf := rfl) cb_X0 ⟨by decide, rfl, gw_185⟩ ?_
    obtain ⟨z4, hz4, h⟩ := sx_bd h
    refine sx_callV (o := r1) (As := [.int v4, .int (gI q k 0)]) (rest := [.int v5]) KSX (F4_givenOn_ck l r1 hr1 v4 (gI q k 0) q hz4) mi_X4_givenOn gw_539 rfl ⟨gw_519, gw_520⟩ hr1.1 rfl rfl ⟨Nat.le_of_ble_eq_true rfl, Nat.le_of_ble_eq_true rfl⟩ (Nat.le_of_ble_eq_true rfl) dX0_likingBehind_93 rfl ?_
    refine sx_imul dX0_likingBehind_96 ?_
    refine sx_if_le (tgt := 108) dX0_likingBehind_97 (by decide) (fun c9 => ?_) (fun c9 => ?_)
    · replace h := sx_ip h c9
      refine sx_locs [6] rfl ?_
      exact F0_likingBehind_108_ok l k hk r1 hr1 v6 z4.2 h hk9
    · replace h := sx_in h c9
      refine sx_iload dX0_likingBehind_100 rfl ?_
      refine sx_aload_n dX0_likingBehind_102 rfl rfl ?_
      refine sx_iconst (v := (3 : Int32)) dX0_likingBehind_103 (by decide) ?_
      refine sx_ialdC (j9 := 3) dX0_likingBehind_104 shX_23 (fun _ _ => rfl) (by decide) (by decide) ?_
      refine sx_iadd dX0_likingBehind_105 ?_
      obtain ⟨x5, ex5, h⟩ := sx_lt h
      refine sx_nmI ex5 ?_
      refine sx_istore (ls2 := [(6, .int x5), (0, .ref k), (1, .ref r1), (2, .ref 23), (3, .int v3), (4, .int v4), (5, .int v5)]) dX0_likingBehind_106 (by decide) rfl ?_
      refine sx_locs [0] rfl ?_
      exact F0_likingBehind_108_ok l k hk r1 hr1 x5 z4.2 h hk9
  · replace h := sx_in h c9
    refine sx_aload_n dX0_likingBehind_37 rfl rfl ?_
    refine sx_aload_n dX0_likingBehind_38 rfl rfl ?_
    refine sx_iload_n dX0_likingBehind_39 rfl rfl ?_
    refine sx_iload dX0_likingBehind_40 rfl ?_
    obtain ⟨z6, hz6, h⟩ := sx_bd h
    refine sx_callV (o := k) (As := [.ref r1, .int v3, .int v4]) (rest := []) KSX (F0_starsFor_ck l k hk r1 hr1 v3 v4 q hz6) mi_X0_starsFor gw_545 rfl ⟨gw_535, gw_536⟩ hk.1 rfl rfl ⟨Nat.le_of_ble_eq_true rfl, Nat.le_of_ble_eq_true rfl⟩ (Nat.le_of_ble_eq_true rfl) dX0_likingBehind_42 rfl ?_
    obtain ⟨x7, ex7, h⟩ := sx_lt h
    refine sx_nmI ex7 ?_
    refine sx_istore (ls2 := [(7, .int x7), (0, .ref k), (1, .ref r1), (2, .ref 23), (3, .int v3), (4, .int v4), (5, .int v5), (6, .int v6)]) dX0_likingBehind_45 (by decide) rfl ?_
    refine sx_aload_n dX0_likingBehind_47 rfl rfl ?_
    refine sx_aload_n dX0_likingBehind_48 rfl rfl ?_
    refine sx_iload_n dX0_likingBehind_49 rfl rfl ?_
    refine sx_iload dX0_likingBehind_50 rfl ?_
    obtain ⟨z8, hz8, h⟩ := sx_bd h
    refine sx_callV (o := k) (As := [.ref r1, .int v3, .int v4]) (rest := []) KSX (F0_wantOf_ck l k hk r1 hr1 v3 v4 z6.2 hz8) mi_X0_wantOf gw_554 rfl ⟨gw_541, gw_542⟩ hk.1 rfl rfl ⟨Nat.le_of_ble_eq_true rfl, Nat.le_of_ble_eq_true rfl⟩ (Nat.le_of_ble_eq_true rfl) dX0_likingBehind_52 rfl ?_
    obtain ⟨x9, ex9, h⟩ := sx_lt h
    refine sx_nmI ex9 ?_
    refine sx_istore (ls2 := [(8, .int x9), (7, .int x7), (0, .ref k), (1, .ref r1), (2, .ref 23), (3, .int v3), (4, .int v4), (5, .int v5), (6, .int v6)]) dX0_likingBehind_55 (by decide) rfl ?_
    refine sx_iload dX0_likingBehind_57 rfl ?_
    refine sx_if_le (tgt := 81) dX0_likingBehind_59 (by decide) (fun c9 => ?_) (fun c9 => ?_)
    · replace h := sx_ip h c9
      refine sx_goto (tgt := 108) dX0_likingBehind_81 (by decide) ?_
      refine sx_locs [8] rfl ?_
      exact F0_likingBehind_108_ok l k hk r1 hr1 v6 z8.2 h hk9
    · replace h := sx_in h c9
      refine sx_iload dX0_likingBehind_62 rfl ?_
      refine sx_if_le (tgt := 81) dX0_likingBehind_64 (by decide) (fun c9 => ?_) (fun c9 => ?_)
      · replace h := sx_ip h c9
        refine sx_goto (tgt := 108) dX0_likingBehind_81 (by decide) ?_
        refine sx_locs [8] rfl ?_
        exact F0_likingBehind_108_ok l k hk r1 hr1 v6 z8.2 h hk9
      · replace h := sx_in h c9
        refine sx_iload dX0_likingBehind_67 rfl ?_
        refine sx_aload_n dX0_likingBehind_69 rfl rfl ?_
        refine sx_iconst (v := (2 : Int32)) dX0_likingBehind_70 (by decide) ?_
        refine sx_ialdC (j9 := 2) dX0_likingBehind_71 shX_23 (fun _ _ => rfl) (by decide) (by decide) ?_
        refine sx_iload dX0_likingBehind_72 rfl ?_
        refine sx_imul dX0_likingBehind_74 ?_
        refine sx_iload dX0_likingBehind_75 rfl ?_
        obtain ⟨g9, h⟩ := sx_gd h
        refine sx_idiv dX0_likingBehind_77 (sx_nz g9) ?_
        refine sx_isub dX0_likingBehind_78 ?_
        obtain ⟨x10, ex10, h⟩ := sx_lt h
        refine sx_nmI ex10 ?_
        refine sx_istore (ls2 := [(6, .int x10), (8, .int x9), (7, .int x7), (0, .ref k), (1, .ref r1), (2, .ref 23), (3, .int v3), (4, .int v4), (5, .int v5)]) dX0_likingBehind_79 (by decide) rfl ?_
        refine sx_goto (tgt := 108) dX0_likingBehind_81 (by decide) ?_
        refine sx_locs [0] rfl ?_
        exact F0_likingBehind_108_ok l k hk r1 hr1 x10 z8.2 h hk9
def F0_likingBehind (k : Nat) (r1 : Nat) (v3 : Int32) (v4 : Int32) (q : SQ) : Option (Int32 × SQ) :=
  (F4_pagesIn r1 v3 v4 q).bind (fun z1 => sx_let z1.1 (fun x2 => (if sx_ix v3 8 = true then sx_let (gI z1.2 (k + 1) v3.toNatClampNeg) (fun x3 => (if x2 ≤ 0 then F0_likingBehind_30 k r1 v3 v4 x2 x3 z1.2 else sx_let (x3 + (gI z1.2 23 1)) (fun x11 => F0_likingBehind_30 k r1 v3 v4 x2 x11 z1.2))) else none)))
set_option maxHeartbeats 400000 in
theorem F0_likingBehind_ok (l : Launch) (k : Nat) (hk : iCo k) (r1 : Nat) (hr1 : iSh r1) {Q : Option Value → SQ → Prop} (v3 : Int32) (v4 : Int32) (q : SQ) {res : Int32 × SQ} (h : F0_likingBehind k r1 v3 v4 q = some res) (hk9 : Q (some (.int res.1)) res.2) : PF0_likingBehind l Q 0 [(0, .ref k), (1, .ref r1), (2, .ref 23), (3, .int v3), (4, .int v4)] [] q := by
  unfold F0_likingBehind at h
  refine sx_aload_n dX0_likingBehind_0 rfl rfl ?_
  refine sx_iload_n dX0_likingBehind_1 rfl rfl ?_
  refine sx_iload dX0_likingBehind_2 rfl ?_
  obtain ⟨z1, hz1, h⟩ := sx_bd h
  refine sx_callV (o := r1) (As := [.int v3, .int v4]) (rest := []) KSX (F4_pagesIn_ck l r1 hr1 v3 v4 q hz1) mi_X4_pagesIn gw_538 rfl ⟨gw_527, gw_528⟩ hr1.1 rfl rfl ⟨Nat.le_of_ble_eq_true rfl, Nat.le_of_ble_eq_true rfl⟩ (Nat.le_of_ble_eq_true rfl) dX0_likingBehind_4 rfl ?_
  obtain ⟨x2, ex2, h⟩ := sx_lt h
  refine sx_nmI ex2 ?_
  refine sx_istore (ls2 := [(5, .int x2), (0, .ref k), (1, .ref r1), (2, .ref 23), (3, .int v3), (4, .int v4)]) dX0_likingBehind_7 (by decide) rfl ?_
  refine sx_aload_n dX0_likingBehind_9 rfl rfl ?_
  refine sx_getR dX0_likingBehind_10 (hs := hk.1) (k9 := 2) (hf := rfl) cb_X0 ⟨by decide, rfl, gw_189⟩ ?_
  refine sx_iload_n dX0_likingBehind_13 rfl rfl ?_
  obtain ⟨g9, h⟩ := sx_gd h
  refine sx_iald dX0_likingBehind_14 hk.2.1 (fun _ _ => rfl) (sx_ix_in g9) ?_
  obtain ⟨x3, ex3, h⟩ := sx_lt h
  refine sx_nmI ex3 ?_
  refine sx_istore (ls2 := [(6, .int x3), (5, .int x2), (0, .ref k), (1, .ref r1), (2, .ref 23), (3, .int v3), (4, .int v4)]) dX0_likingBehind_15 (by decide) rfl ?_
  refine sx_iload dX0_likingBehind_17 rfl ?_
  refine sx_if_le (tgt := 30) dX0_likingBehind_19 (by decide) (fun c9 => ?_) (fun c9 => ?_)
  · replace h := sx_ip h c9
    refine sx_locs [2, 3, 4, 5, 6, 1, 0] rfl ?_
    exact F0_likingBehind_30_ok l k hk r1 hr1 v3 v4 x2 x3 z1.2 h hk9
  · replace h := sx_in h c9
    refine sx_iload dX0_likingBehind_22 rfl ?_
    refine sx_aload_n dX0_likingBehind_24 rfl rfl ?_
    refine sx_iconst (v := (1 : Int32)) dX0_likingBehind_25 (by decide) ?_
    refine sx_ialdC (j9 := 1) dX0_likingBehind_26 shX_23 (fun _ _ => rfl) (by decide) (by decide) ?_
    refine sx_iadd dX0_likingBehind_27 ?_
    obtain ⟨x11, ex11, h⟩ := sx_lt h
    refine sx_nmI ex11 ?_
    refine sx_istore (ls2 := [(6, .int x11), (5, .int x2), (0, .ref k), (1, .ref r1), (2, .ref 23), (3, .int v3), (4, .int v4)]) dX0_likingBehind_28 (by decide) rfl ?_
    refine sx_locs [2, 3, 4, 5, 6, 1, 0] rfl ?_
    exact F0_likingBehind_30_ok l k hk r1 hr1 v3 v4 x2 x11 z1.2 h hk9
theorem F0_likingBehind_ck (l : Launch) (k : Nat) (hk : iCo k) (r1 : Nat) (hr1 : iSh r1) (v3 : Int32) (v4 : Int32) (q : SQ) {r : Int32 × SQ} (h : F0_likingBehind k r1 v3 v4 q = some r) : CK shX vwCl KX tfX l yX0_likingBehind cX0_likingBehind 9 ((some .int)) 3 69 [.ref k, .ref r1, .ref 23, .int v3, .int v4] q (some (.int r.1)) r.2 :=
  CK.of mi_X0_likingBehind (Nat.le_of_ble_eq_true rfl) (F0_likingBehind_ok l k hk r1 hr1 v3 v4 q h ⟨rfl, rfl⟩)
theorem mi_X4_givesNothing : sx_MI yX4_givesNothing cX4_givesNothing 3 ((some .boolean)) 1 := ⟨by decide, ⟨by decide, by decide, by decide +kernel⟩, gw_582, gw_61⟩
abbrev PF4_givesNothing (l : Launch) (Q : Option Value → SQ → Prop) : Nat → List (Nat × Value) → List Value → SQ → Prop := XX shX vwCl KX tfX l RX4 cX4_givesNothing 3 ((some .boolean)) { frames := 1, cells := 0, slots := 0, locals := 22 } Q
def F4_givesNothing_2b (k : Nat) (v1 : Int32) (v2 : Int32) (q : SQ) : Option ((Int32 × SQ) ⊕ (Int32 × SQ)) :=
  (if gI q k 1 ≤ v2 then some (.inr ((1 : Int32), q)) else (F4_givenOn k v2 v1 q).bind (fun z1 => (if z1.1 ≤ 0 then sx_let (v2 + (1 : Int32)) (fun x2 => some (.inl (x2, z1.2))) else some (.inr ((0 : Int32), z1.2)))))
set_option maxHeartbeats 400000 in
theorem F4_givesNothing_2b_ok (l : Launch) (k : Nat) (hk : iSh k) {Q : Option Value → SQ → Prop} (v1 : Int32) (v2 : Int32) (q : SQ) {res : (Int32 × SQ) ⊕ (Int32 × SQ)} (h : F4_givesNothing_2b k v1 v2 q = some res) (hk9 : (∀ a3, res = .inl a3 → PF4_givesNothing l Q 2 [(0, .ref k), (1, .int v1), (2, .int a3.1)] [] a3.2) ∧ (∀ b4, res = .inr b4 → Q (some (.int b4.1)) b4.2)) : PF4_givesNothing l Q 2 [(0, .ref k), (1, .int v1), (2, .int v2)] [] q := by
  unfold F4_givesNothing_2b at h
  refine sx_iload_n dX4_givesNothing_2 rfl rfl ?_
  refine sx_aload_n dX4_givesNothing_3 rfl rfl ?_
  refine sx_getI dX4_givesNothing_4 (hs := hk.1) (k9 := 1) (hf := rfl) cb_X4 ⟨by decide, rfl, gw_92⟩ ?_
  refine sx_icmp_ge (tgt := 27) dX4_givesNothing_7 (by decide) (fun c9 => ?_) (fun c9 => ?_)
  · replace h := sx_ip h c9
    refine sx_iconst (v := (1 : Int32)) dX4_givesNothing_27 (by decide) ?_
    have hk9 := hk9.2 _ (Option.some.inj h).symm
    exact sx_zret dX4_givesNothing_28 rfl (by decide) hk9
  · replace h := sx_in h c9
    refine sx_aload_n dX4_givesNothing_10 rfl rfl ?_
    refine sx_iload_n dX4_givesNothing_11 rfl rfl ?_
    refine sx_iload_n dX4_givesNothing_12 rfl rfl ?_
    obtain ⟨z1, hz1, h⟩ := sx_bd h
    refine sx_callV (o := k) (As := [.int v2, .int v1]) (rest := []) KSX (F4_givenOn_ck l k hk v2 v1 q hz1) mi_X4_givenOn gw_583 rfl ⟨gw_519, gw_520⟩ hk.1 rfl rfl ⟨Nat.le_of_ble_eq_true rfl, Nat.le_of_ble_eq_true rfl⟩ (Nat.le_of_ble_eq_true rfl) dX4_givesNothing_13 rfl ?_
    refine sx_if_le (tgt := 21) dX4_givesNothing_16 (by decide) (fun c9 => ?_) (fun c9 => ?_)
    · replace h := sx_ip h c9
      obtain ⟨x2, ex2, h⟩ := sx_lt h
      refine sx_iinc (k9 := 2) (v := x2) (ls2 := [(2, .int x2), (0, .ref k), (1, .int v1)]) dX4_givesNothing_21 rfl (by rw [ex2, sx_ofI1]) (by decide) rfl ?_
      refine sx_goto (tgt := 2) dX4_givesNothing_24 (by decide) ?_
      refine sx_locs [1, 2, 0] rfl ?_
      exact hk9.1 (x2, z1.2) (Option.some.inj h).symm
    · replace h := sx_in h c9
      refine sx_iconst (v := (0 : Int32)) dX4_givesNothing_19 (by decide) ?_
      have hk9 := hk9.2 _ (Option.some.inj h).symm
      exact sx_zret dX4_givesNothing_20 rfl (by decide) hk9
def F4_givesNothing_2 (k : Nat) (v1 : Int32) (v2 : Int32) (q : SQ) : Option (Int32 × SQ) := sx_loop (fun s5 => F4_givesNothing_2b k v1 s5.1 s5.2) FU (v2, q)
set_option maxHeartbeats 400000 in
theorem F4_givesNothing_2_ok (l : Launch) (k : Nat) (hk : iSh k) {Q : Option Value → SQ → Prop} (v1 : Int32) (v2 : Int32) (q : SQ) {t : Int32 × SQ} (h : F4_givesNothing_2 k v1 v2 q = some t) (hk9 : Q (some (.int t.1)) t.2) : PF4_givesNothing l Q 2 [(0, .ref k), (1, .int v1), (2, .int v2)] [] q := by
  unfold F4_givesNothing_2 at h
  have st : ∀ (s : Int32 × SQ) (res : (Int32 × SQ) ⊕ (Int32 × SQ)), F4_givesNothing_2b k v1 s.1 s.2 = some res → (∀ s2, res = .inl s2 → PF4_givesNothing l Q 2 [(0, .ref k), (1, .int v1), (2, .int s2.1)] [] s2.2) → (∀ t2, res = .inr t2 → Q (some (.int t2.1)) t2.2) → PF4_givesNothing l Q 2 [(0, .ref k), (1, .int v1), (2, .int s.1)] [] s.2 :=
    fun s res hb hi ho => F4_givesNothing_2b_ok l k hk v1 s.1 s.2 hb ⟨hi, ho⟩
  have h9 : PF4_givesNothing l Q 2 [(0, .ref k), (1, .int v1), (2, .int v2)] [] q := sx_lp (body := fun s => F4_givesNothing_2b k v1 s.1 s.2) (P := fun s => PF4_givesNothing l Q 2 [(0, .ref k), (1, .int v1), (2, .int s.1)] [] s.2) (T := fun t => Q (some (.int t.1)) t.2) st FU (v2, q) t h hk9
  exact h9
def F4_givesNothing (k : Nat) (v1 : Int32) (q : SQ) : Option (Int32 × SQ) :=
  F4_givesNothing_2 k v1 (0 : Int32) q
set_option maxHeartbeats 400000 in
theorem F4_givesNothing_ok (l : Launch) (k : Nat) (hk : iSh k) {Q : Option Value → SQ → Prop} (v1 : Int32) (q : SQ) {res : Int32 × SQ} (h : F4_givesNothing k v1 q = some res) (hk9 : Q (some (.int res.1)) res.2) : PF4_givesNothing l Q 0 [(0, .ref k), (1, .int v1)] [] q := by
  unfold F4_givesNothing at h
  refine sx_iconst (v := (0 : Int32)) dX4_givesNothing_0 (by decide) ?_
  refine sx_istore_n (ls2 := [(2, .int (0 : Int32)), (0, .ref k), (1, .int v1)]) dX4_givesNothing_1 rfl (by decide) rfl ?_
  refine sx_locs [1, 2, 0] rfl ?_
  exact F4_givesNothing_2_ok l k hk v1 (0 : Int32) q h hk9
theorem F4_givesNothing_ck (l : Launch) (k : Nat) (hk : iSh k) (v1 : Int32) (q : SQ) {r : Int32 × SQ} (h : F4_givesNothing k v1 q = some r) : CK shX vwCl KX tfX l yX4_givesNothing cX4_givesNothing 3 ((some .boolean)) 1 22 [.ref k, .int v1] q (some (.int r.1)) r.2 :=
  CK.of mi_X4_givesNothing (Nat.le_of_ble_eq_true rfl) (F4_givesNothing_ok l k hk v1 q h ⟨rfl, rfl⟩)
theorem mi_X0_worthBehind : sx_MI yX0_worthBehind cX0_worthBehind 5 ((some .int)) 3 := ⟨by decide, ⟨by decide, by decide, by decide +kernel⟩, gw_578, gw_63⟩
abbrev PF0_worthBehind (l : Launch) (Q : Option Value → SQ → Prop) : Nat → List (Nat × Value) → List Value → SQ → Prop := XX shX vwCl KX tfX l RX0 cX0_worthBehind 5 ((some .int)) { frames := 2, cells := 0, slots := 0, locals := 44 } Q
def F0_worthBehind_50 (k : Nat) (r1 : Nat) (v4 : Int32) (q : SQ) : Option (Int32 × SQ) :=
  some (if (0 : Int32) < if v4 < (100 : Int32) then v4 else (100 : Int32) then if v4 < (100 : Int32) then v4 else (100 : Int32) else (0 : Int32), q)
set_option maxHeartbeats 400000 in
theorem F0_worthBehind_50_ok (l : Launch) (k : Nat) (hk : iCo k) (r1 : Nat) (hr1 : iSh r1) {Q : Option Value → SQ → Prop} (v4 : Int32) (q : SQ) {res : Int32 × SQ} (h : F0_worthBehind_50 k r1 v4 q = some res) (hk9 : Q (some (.int res.1)) res.2) : PF0_worthBehind l Q 50 [(4, .int v4)] [] q := by
  unfold F0_worthBehind_50 at h
  refine sx_iconst (v := (0 : Int32)) dX0_worthBehind_50 (by decide) ?_
  refine sx_bipush (v := (100 : Int32)) dX0_worthBehind_51 (by decide) ?_
  refine sx_iload dX0_worthBehind_53 rfl ?_
  refine sx_mmin dX0_worthBehind_55 gw_571 gw_mmin (by decide) (Nat.le_of_ble_eq_true rfl) ?_
  refine sx_mmax dX0_worthBehind_58 gw_572 gw_mmax (by decide) (Nat.le_of_ble_eq_true rfl) ?_
  obtain rfl := Option.some.inj h
  exact sx_iret dX0_worthBehind_61 rfl hk9
def F0_worthBehind_31 (k : Nat) (r1 : Nat) (v4 : Int32) (q : SQ) : Option (Int32 × SQ) :=
  (F4_givesNothing r1 (gI q k 0) q).bind (fun z2 => (if z2.1 = 0 then F0_worthBehind_50 k r1 v4 z2.2 else sx_let (v4 + (gI z2.2 23 5)) (fun x3 => F0_worthBehind_50 k r1 x3 z2.2)))
set_option maxHeartbeats 400000 in
theorem F0_worthBehind_31_ok (l : Launch) (k : Nat) (hk : iCo k) (r1 : Nat) (hr1 : iSh r1) {Q : Option Value → SQ → Prop} (v4 : Int32) (q : SQ) {res : Int32 × SQ} (h : F0_worthBehind_31 k r1 v4 q = some res) (hk9 : Q (some (.int res.1)) res.2) : PF0_worthBehind l Q 31 [(0, .ref k), (1, .ref r1), (2, .ref 23), (4, .int v4)] [] q := by
  unfold F0_worthBehind_31 at h
  refine sx_aload_n dX0_worthBehind_31 rfl rfl ?_
  refine sx_aload_n dX0_worthBehind_32 rfl rfl ?_
  refine sx_getI dX0_worthBehind_33 (hs := hk.1) (k9 := 0) (hf := rfl) cb_X0 ⟨by decide, rfl, gw_185⟩ ?_
  obtain ⟨z2, hz2, h⟩ := sx_bd h
  refine sx_callV (o := r1) (As := [.int (gI q k 0)]) (rest := []) KSX (F4_givesNothing_ck l r1 hr1 (gI q k 0) q hz2) mi_X4_givesNothing gw_579 rfl ⟨gw_580, gw_581⟩ hr1.1 rfl rfl ⟨Nat.le_of_ble_eq_true rfl, Nat.le_of_ble_eq_true rfl⟩ (Nat.le_of_ble_eq_true rfl) dX0_worthBehind_36 rfl ?_
  refine sx_if_eq (tgt := 50) dX0_worthBehind_39 (by decide) (fun c9 => ?_) (fun c9 => ?_)
  · replace h := sx_ip h c9
    refine sx_locs [3] rfl ?_
    exact F0_worthBehind_50_ok l k hk r1 hr1 v4 z2.2 h hk9
  · replace h := sx_in h c9
    refine sx_iload dX0_worthBehind_42 rfl ?_
    refine sx_aload_n dX0_worthBehind_44 rfl rfl ?_
    refine sx_iconst (v := (5 : Int32)) dX0_worthBehind_45 (by decide) ?_
    refine sx_ialdC (j9 := 5) dX0_worthBehind_46 shX_23 (fun _ _ => rfl) (by decide) (by decide) ?_
    refine sx_iadd dX0_worthBehind_47 ?_
    obtain ⟨x3, ex3, h⟩ := sx_lt h
    refine sx_nmI ex3 ?_
    refine sx_istore (ls2 := [(4, .int x3), (0, .ref k), (1, .ref r1), (2, .ref 23)]) dX0_worthBehind_48 (by decide) rfl ?_
    refine sx_locs [0] rfl ?_
    exact F0_worthBehind_50_ok l k hk r1 hr1 x3 z2.2 h hk9
def F0_worthBehind (k : Nat) (r1 : Nat) (v3 : Int32) (q : SQ) : Option (Int32 × SQ) :=
  sx_let (gI q k 1) (fun x1 => (if gI q r1 0 ≤ 0 then F0_worthBehind_31 k r1 x1 q else (if sx_n0 ((10 : Int32) * (gI q r1 0)) = true then sx_let (x1 - (((gI q 23 4) * v3) / ((10 : Int32) * (gI q r1 0)))) (fun x4 => F0_worthBehind_31 k r1 x4 q) else none)))
set_option maxHeartbeats 400000 in
theorem F0_worthBehind_ok (l : Launch) (k : Nat) (hk : iCo k) (r1 : Nat) (hr1 : iSh r1) {Q : Option Value → SQ → Prop} (v3 : Int32) (q : SQ) {res : Int32 × SQ} (h : F0_worthBehind k r1 v3 q = some res) (hk9 : Q (some (.int res.1)) res.2) : PF0_worthBehind l Q 0 [(0, .ref k), (1, .ref r1), (2, .ref 23), (3, .int v3)] [] q := by
  unfold F0_worthBehind at h
  refine sx_aload_n dX0_worthBehind_0 rfl rfl ?_
  refine sx_getI dX0_worthBehind_1 (hs := hk.1) (k9 := 1) (hf := rfl) cb_X0 ⟨by decide, rfl, gw_187⟩ ?_
  obtain ⟨x1, ex1, h⟩ := sx_lt h
  refine sx_nmI ex1 ?_
  refine sx_istore (ls2 := [(4, .int x1), (0, .ref k), (1, .ref r1), (2, .ref 23), (3, .int v3)]) dX0_worthBehind_4 (by decide) rfl ?_
  refine sx_aload_n dX0_worthBehind_6 rfl rfl ?_
  refine sx_getI dX0_worthBehind_7 (hs := hr1.1) (k9 := 0) (hf := rfl) cb_X4 ⟨by decide, rfl, gw_89⟩ ?_
  refine sx_if_le (tgt := 31) dX0_worthBehind_10 (by decide) (fun c9 => ?_) (fun c9 => ?_)
  · replace h := sx_ip h c9
    refine sx_locs [1, 2, 3, 0] rfl ?_
    exact F0_worthBehind_31_ok l k hk r1 hr1 x1 q h hk9
  · replace h := sx_in h c9
    refine sx_iload dX0_worthBehind_13 rfl ?_
    refine sx_aload_n dX0_worthBehind_15 rfl rfl ?_
    refine sx_iconst (v := (4 : Int32)) dX0_worthBehind_16 (by decide) ?_
    refine sx_ialdC (j9 := 4) dX0_worthBehind_17 shX_23 (fun _ _ => rfl) (by decide) (by decide) ?_
    refine sx_iload_n dX0_worthBehind_18 rfl rfl ?_
    refine sx_imul dX0_worthBehind_19 ?_
    refine sx_bipush (v := (10 : Int32)) dX0_worthBehind_20 (by decide) ?_
    refine sx_aload_n dX0_worthBehind_22 rfl rfl ?_
    refine sx_getI dX0_worthBehind_23 (hs := hr1.1) (k9 := 0) (hf := rfl) cb_X4 ⟨by decide, rfl, gw_89⟩ ?_
    refine sx_imul dX0_worthBehind_26 ?_
    obtain ⟨g9, h⟩ := sx_gd h
    refine sx_idiv dX0_worthBehind_27 (sx_nz g9) ?_
    refine sx_isub dX0_worthBehind_28 ?_
    obtain ⟨x4, ex4, h⟩ := sx_lt h
    refine sx_nmI ex4 ?_
    refine sx_istore (ls2 := [(4, .int x4), (0, .ref k), (1, .ref r1), (2, .ref 23), (3, .int v3)]) dX0_worthBehind_29 (by decide) rfl ?_
    refine sx_locs [1, 2, 3, 0] rfl ?_
    exact F0_worthBehind_31_ok l k hk r1 hr1 x4 q h hk9
theorem F0_worthBehind_ck (l : Launch) (k : Nat) (hk : iCo k) (r1 : Nat) (hr1 : iSh r1) (v3 : Int32) (q : SQ) {r : Int32 × SQ} (h : F0_worthBehind k r1 v3 q = some r) : CK shX vwCl KX tfX l yX0_worthBehind cX0_worthBehind 5 ((some .int)) 2 44 [.ref k, .ref r1, .ref 23, .int v3] q (some (.int r.1)) r.2 :=
  CK.of mi_X0_worthBehind (Nat.le_of_ble_eq_true rfl) (F0_worthBehind_ok l k hk r1 hr1 v3 q h ⟨rfl, rfl⟩)
theorem mi_X0_pass : sx_MI yX0_pass cX0_pass 9 ((some .int)) 2 := ⟨by decide, ⟨by decide, by decide, by decide +kernel⟩, gw_565, gw_63⟩
abbrev PF0_pass (l : Launch) (Q : Option Value → SQ → Prop) : Nat → List (Nat × Value) → List Value → SQ → Prop := XX shX vwCl KX tfX l RX0 cX0_pass 9 ((some .int)) { frames := 4, cells := 0, slots := 0, locals := 97 } Q
def F0_pass_112 (k : Nat) (r1 : Nat) (v3 : Int32) (v4 : Int32) (v5 : Int32) (q : SQ) : Option ((Int32 × Int32 × Int32 × SQ) ⊕ (Int32 × SQ)) :=
  sx_let (v5 + (1 : Int32)) (fun x6 => some (.inl (v3, v4, x6, q)))
set_option maxHeartbeats 400000 in
theorem F0_pass_112_ok (l : Launch) (k : Nat) (hk : iCo k) (r1 : Nat) (hr1 : iSh r1) {Q : Option Value → SQ → Prop} (v3 : Int32) (v4 : Int32) (v5 : Int32) (q : SQ) {res : (Int32 × Int32 × Int32 × SQ) ⊕ (Int32 × SQ)} (h : F0_pass_112 k r1 v3 v4 v5 q = some res) (hk9 : (∀ a7, res = .inl a7 → PF0_pass l Q 8 [(0, .ref k), (1, .ref r1), (2, .ref 23), (3, .int a7.1), (4, .int a7.2.1), (5, .int a7.2.2.1)] [] a7.2.2.2) ∧ (∀ b8, res = .inr b8 → Q (some (.int b8.1)) b8.2)) : PF0_pass l Q 112 [(0, .ref k), (1, .ref r1), (2, .ref 23), (3, .int v3), (4, .int v4), (5, .int v5)] [] q := by
  unfold F0_pass_112 at h
  obtain ⟨x6, ex6, h⟩ := sx_lt h
  refine sx_iinc (k9 := 5) (v := x6) (ls2 := [(5, .int x6), (0, .ref k), (1, .ref r1), (2, .ref 23), (3, .int v3), (4, .int v4)]) dX0_pass_112 rfl (by rw [ex6, sx_ofI1]) (by decide) rfl ?_
  refine sx_goto (tgt := 8) dX0_pass_115 (by decide) ?_
  refine sx_locs [1, 2, 3, 4, 5, 0] rfl ?_
  exact hk9.1 (v3, v4, x6, q) (Option.some.inj h).symm
def F0_pass_8b (k : Nat) (r1 : Nat) (v3 : Int32) (v4 : Int32) (v5 : Int32) (q : SQ) : Option ((Int32 × Int32 × Int32 × SQ) ⊕ (Int32 × SQ)) :=
  (if gI q r1 0 ≤ v5 then (F0_worthBehind k r1 v4 q).bind (fun z1 => sx_let (sI z1.2 k 1 z1.1) (fun q2 => sx_let (sI q2 k 0 ((gI q2 k 0) + (1 : Int32))) (fun q3 => some (.inr (v3, q3))))) else (F0_choiceOf k r1 v5 (gI q 23 0) q).bind (fun z4 => sx_let z4.1 (fun x5 => (if x5 < 0 then F0_pass_112 k r1 v3 v4 v5 z4.2 else (F4_pagesIn r1 v5 x5 z4.2).bind (fun z9 => sx_let z9.1 (fun x10 => (F4_givenOn r1 x5 (gI z9.2 k 0) z9.2).bind (fun z11 => sx_let (x10 * z11.1) (fun x12 => (F0_likingBehind k r1 v5 x5 z11.2).bind (fun z13 => (if sx_ix v5 8 = true then sx_let (sI z13.2 (k + 1) v5.toNatClampNeg z13.1) (fun q14 => (if sx_ix v5 8 = true then (if sx_ix v5 8 = true then sx_let (sI q14 (k + 2) v5.toNatClampNeg ((gI q14 (k + 2) v5.toNatClampNeg) + x10)) (fun q15 => (if sx_ix v5 8 = true then (if sx_ix v5 8 = true then sx_let (sI q15 (k + 3) v5.toNatClampNeg ((gI q15 (k + 3) v5.toNatClampNeg) + x12)) (fun q16 => sx_let (v3 + x10) (fun x17 => sx_let (v4 + x12) (fun x18 => F0_pass_112 k r1 x17 x18 v5 q16))) else none) else none)) else none) else none)) else none))))))))))
set_option maxHeartbeats 400000 in
theorem F0_pass_8b_ok (l : Launch) (k : Nat) (hk : iCo k) (r1 : Nat) (hr1 : iSh r1) {Q : Option Value → SQ → Prop} (v3 : Int32) (v4 : Int32) (v5 : Int32) (q : SQ) {res : (Int32 × Int32 × Int32 × SQ) ⊕ (Int32 × SQ)} (h : F0_pass_8b k r1 v3 v4 v5 q = some res) (hk9 : (∀ a19, res = .inl a19 → PF0_pass l Q 8 [(0, .ref k), (1, .ref r1), (2, .ref 23), (3, .int a19.1), (4, .int a19.2.1), (5, .int a19.2.2.1)] [] a19.2.2.2) ∧ (∀ b20, res = .inr b20 → Q (some (.int b20.1)) b20.2)) : PF0_pass l Q 8 [(0, .ref k), (1, .ref r1), (2, .ref 23), (3, .int v3), (4, .int v4), (5, .int v5)] [] q := by
  unfold F0_pass_8b at h
  refine sx_iload dX0_pass_8 rfl ?_
  refine sx_aload_n dX0_pass_10 rfl rfl ?_
  refine sx_getI dX0_pass_11 (hs := hr1.1) (k9 := 0) (hf := rfl) cb_X4 ⟨by decide, rfl, gw_89⟩ ?_
  refine sx_icmp_ge (tgt := 118) dX0_pass_14 (by decide) (fun c9 => ?_) (fun c9 => ?_)
  · replace h := sx_ip h c9
    refine sx_aload_n dX0_pass_118 rfl rfl ?_
    refine sx_aload_n dX0_pass_119 rfl rfl ?_
    refine sx_aload_n dX0_pass_120 rfl rfl ?_
    refine sx_aload_n dX0_pass_121 rfl rfl ?_
    refine sx_iload dX0_pass_122 rfl ?_
    obtain ⟨z1, hz1, h⟩ := sx_bd h
    refine sx_callV (o := k) (As := [.ref r1, .ref 23, .int v4]) (rest := [.ref k]) KSX (F0_worthBehind_ck l k hk r1 hr1 v4 q hz1) mi_X0_worthBehind gw_575 rfl ⟨gw_577, gw_16⟩ hk.1 rfl rfl ⟨Nat.le_of_ble_eq_true rfl, Nat.le_of_ble_eq_true rfl⟩ (Nat.le_of_ble_eq_true rfl) dX0_pass_124 rfl ?_
    obtain ⟨q2, eq2, h⟩ := sx_lt h
    refine sx_putI dX0_pass_127 (hs := hk.1) (k9 := 1) (hf := rfl) cb_X0 ⟨by decide, rfl, gw_187⟩ rfl (by decide) ?_
    refine sx_nmQ eq2 ?_
    refine sx_aload_n dX0_pass_130 rfl rfl ?_
    refine sx_dup dX0_pass_131 rfl ?_
    refine sx_getI dX0_pass_132 (hs := hk.1) (k9 := 0) (hf := rfl) cb_X0 ⟨by decide, rfl, gw_185⟩ ?_
    refine sx_iconst (v := (1 : Int32)) dX0_pass_135 (by decide) ?_
    refine sx_iadd dX0_pass_136 ?_
    obtain ⟨q3, eq3, h⟩ := sx_lt h
    refine sx_putI dX0_pass_137 (hs := hk.1) (k9 := 0) (hf := rfl) cb_X0 ⟨by decide, rfl, gw_185⟩ rfl (by decide) ?_
    refine sx_nmQ eq3 ?_
    refine sx_iload_n dX0_pass_140 rfl rfl ?_
    have hk9 := hk9.2 _ (Option.some.inj h).symm
    exact sx_iret dX0_pass_141 rfl hk9
  · replace h := sx_in h c9
    refine sx_aload_n dX0_pass_17 rfl rfl ?_
    refine sx_aload_n dX0_pass_18 rfl rfl ?_
    refine sx_iload dX0_pass_19 rfl ?_
    refine sx_aload_n dX0_pass_21 rfl rfl ?_
    refine sx_iconst (v := (0 : Int32)) dX0_pass_22 (by decide) ?_
    refine sx_ialdC (j9 := 0) dX0_pass_23 shX_23 (fun _ _ => rfl) (by decide) (by decide) ?_
    obtain ⟨z4, hz4, h⟩ := sx_bd h
    refine sx_callV (o := k) (As := [.ref r1, .int v5, .int (gI q 23 0)]) (rest := []) KSX (F0_choiceOf_ck l k hk r1 hr1 v5 (gI q 23 0) q hz4) mi_X0_choiceOf gw_566 rfl ⟨gw_551, gw_552⟩ hk.1 rfl rfl ⟨Nat.le_of_ble_eq_true rfl, Nat.le_of_ble_eq_true rfl⟩ (Nat.le_of_ble_eq_true rfl) dX0_pass_24 rfl ?_
    obtain ⟨x5, ex5, h⟩ := sx_lt h
    refine sx_nmI ex5 ?_
    refine sx_istore (ls2 := [(6, .int x5), (0, .ref k), (1, .ref r1), (2, .ref 23), (3, .int v3), (4, .int v4), (5, .int v5)]) dX0_pass_27 (by decide) rfl ?_
    refine sx_iload dX0_pass_29 rfl ?_
    refine sx_if_lt (tgt := 112) dX0_pass_31 (by decide) (fun c9 => ?_) (fun c9 => ?_)
    · replace h := sx_ip h c9
      refine sx_locs [1, 2, 3, 4, 5, 6] rfl ?_
      exact F0_pass_112_ok l k hk r1 hr1 v3 v4 v5 z4.2 h hk9
    · replace h := sx_in h c9
      refine sx_aload_n dX0_pass_34 rfl rfl ?_
      refine sx_iload dX0_pass_35 rfl ?_
      refine sx_iload dX0_pass_37 rfl ?_
      obtain ⟨z9, hz9, h⟩ := sx_bd h
      refine sx_callV (o := r1) (As := [.int v5, .int x5]) (rest := []) KSX (F4_pagesIn_ck l r1 hr1 v5 x5 z4.2 hz9) mi_X4_pagesIn gw_538 rfl ⟨gw_527, gw_528⟩ hr1.1 rfl rfl ⟨Nat.le_of_ble_eq_true rfl, Nat.le_of_ble_eq_true rfl⟩ (Nat.le_of_ble_eq_true rfl) dX0_pass_39 rfl ?_
      obtain ⟨x10, ex10, h⟩ := sx_lt h
      refine sx_nmI ex10 ?_
      refine sx_istore (ls2 := [(7, .int x10), (6, .int x5), (0, .ref k), (1, .ref r1), (2, .ref 23), (3, .int v3), (4, .int v4), (5, .int v5)]) dX0_pass_42 (by decide) rfl ?_
      refine sx_iload dX0_pass_44 rfl ?_
      refine sx_aload_n dX0_pass_46 rfl rfl ?_
      refine sx_iload dX0_pass_47 rfl ?_
      refine sx_aload_n dX0_pass_49 rfl rfl ?_
      refine sx_getI dX0_pass_50 (hs := hk.1) (k9 := 0) (hf := rfl) cb_X0 ⟨by decide, rfl, gw_185⟩ ?_
      obtain ⟨z11, hz11, h⟩ := sx_bd h
      refine sx_callV (o := r1) (As := [.int x5, .int (gI z9.2 k 0)]) (rest := [.int x10]) KSX (F4_givenOn_ck l r1 hr1 x5 (gI z9.2 k 0) z9.2 hz11) mi_X4_givenOn gw_539 rfl ⟨gw_519, gw_520⟩ hr1.1 rfl rfl ⟨Nat.le_of_ble_eq_true rfl, Nat.le_of_ble_eq_true rfl⟩ (Nat.le_of_ble_eq_true rfl) dX0_pass_53 rfl ?_
      refine sx_imul dX0_pass_56 ?_
      obtain ⟨x12, ex12, h⟩ := sx_lt h
      refine sx_nmI ex12 ?_
      refine sx_istore (ls2 := [(8, .int x12), (7, .int x10), (6, .int x5), (0, .ref k), (1, .ref r1), (2, .ref 23), (3, .int v3), (4, .int v4), (5, .int v5)]) dX0_pass_57 (by decide) rfl ?_
      refine sx_aload_n dX0_pass_59 rfl rfl ?_
      refine sx_getR dX0_pass_60 (hs := hk.1) (k9 := 2) (hf := rfl) cb_X0 ⟨by decide, rfl, gw_189⟩ ?_
      refine sx_iload dX0_pass_63 rfl ?_
      refine sx_aload_n dX0_pass_65 rfl rfl ?_
      refine sx_aload_n dX0_pass_66 rfl rfl ?_
      refine sx_aload_n dX0_pass_67 rfl rfl ?_
      refine sx_iload dX0_pass_68 rfl ?_
      refine sx_iload dX0_pass_70 rfl ?_
      obtain ⟨z13, hz13, h⟩ := sx_bd h
      refine sx_callV (o := k) (As := [.ref r1, .ref 23, .int v5, .int x5]) (rest := [.int v5, .ref (k + 1)]) KSX (F0_likingBehind_ck l k hk r1 hr1 v5 x5 z11.2 hz13) mi_X0_likingBehind gw_567 rfl ⟨gw_569, gw_15⟩ hk.1 rfl rfl ⟨Nat.le_of_ble_eq_true rfl, Nat.le_of_ble_eq_true rfl⟩ (Nat.le_of_ble_eq_true rfl) dX0_pass_72 rfl ?_
      obtain ⟨g9, h⟩ := sx_gd h
      obtain ⟨q14, eq14, h⟩ := sx_lt h
      refine sx_iast dX0_pass_75 hk.2.1 (fun _ _ => rfl) (sx_ix_in g9) ?_
      refine sx_nmQ eq14 ?_
      refine sx_aload_n dX0_pass_76 rfl rfl ?_
      refine sx_getR dX0_pass_77 (hs := hk.1) (k9 := 3) (hf := rfl) cb_X0 ⟨by decide, rfl, gw_191⟩ ?_
      refine sx_iload dX0_pass_80 rfl ?_
      refine sx_dup2_11 dX0_pass_82 rfl rfl ?_
      obtain ⟨g9, h⟩ := sx_gd h
      refine sx_iald dX0_pass_83 hk.2.2.1 (fun _ _ => rfl) (sx_ix_in g9) ?_
      refine sx_iload dX0_pass_84 rfl ?_
      refine sx_iadd dX0_pass_86 ?_
      obtain ⟨g9, h⟩ := sx_gd h
      obtain ⟨q15, eq15, h⟩ := sx_lt h
      refine sx_iast dX0_pass_87 hk.2.2.1 (fun _ _ => rfl) (sx_ix_in g9) ?_
      refine sx_nmQ eq15 ?_
      refine sx_aload_n dX0_pass_88 rfl rfl ?_
      refine sx_getR dX0_pass_89 (hs := hk.1) (k9 := 4) (hf := rfl) cb_X0 ⟨by decide, rfl, gw_193⟩ ?_
      refine sx_iload dX0_pass_92 rfl ?_
      refine sx_dup2_11 dX0_pass_94 rfl rfl ?_
      obtain ⟨g9, h⟩ := sx_gd h
      refine sx_iald dX0_pass_95 hk.2.2.2 (fun _ _ => rfl) (sx_ix_in g9) ?_
      refine sx_iload dX0_pass_96 rfl ?_
      refine sx_iadd dX0_pass_98 ?_
      obtain ⟨g9, h⟩ := sx_gd h
      obtain ⟨q16, eq16, h⟩ := sx_lt h
      refine sx_iast dX0_pass_99 hk.2.2.2 (fun _ _ => rfl) (sx_ix_in g9) ?_
      refine sx_nmQ eq16 ?_
      refine sx_iload_n dX0_pass_100 rfl rfl ?_
      refine sx_iload dX0_pass_101 rfl ?_
      refine sx_iadd dX0_pass_103 ?_
      obtain ⟨x17, ex17, h⟩ := sx_lt h
      refine sx_nmI ex17 ?_
      refine sx_istore_n (ls2 := [(3, .int x17), (8, .int x12), (7, .int x10), (6, .int x5), (0, .ref k), (1, .ref r1), (2, .ref 23), (4, .int v4), (5, .int v5)]) dX0_pass_104 rfl (by decide) rfl ?_
      refine sx_iload dX0_pass_105 rfl ?_
      refine sx_iload dX0_pass_107 rfl ?_
      refine sx_iadd dX0_pass_109 ?_
      obtain ⟨x18, ex18, h⟩ := sx_lt h
      refine sx_nmI ex18 ?_
      refine sx_istore (ls2 := [(4, .int x18), (3, .int x17), (8, .int x12), (7, .int x10), (6, .int x5), (0, .ref k), (1, .ref r1), (2, .ref 23), (5, .int v5)]) dX0_pass_110 (by decide) rfl ?_
      refine sx_locs [5, 6, 7, 1, 0, 8] rfl ?_
      exact F0_pass_112_ok l k hk r1 hr1 x17 x18 v5 q16 h hk9
def F0_pass_8 (k : Nat) (r1 : Nat) (v3 : Int32) (v4 : Int32) (v5 : Int32) (q : SQ) : Option (Int32 × SQ) := sx_loop (fun s21 => F0_pass_8b k r1 s21.1 s21.2.1 s21.2.2.1 s21.2.2.2) FU (v3, v4, v5, q)
set_option maxHeartbeats 400000 in
theorem F0_pass_8_ok (l : Launch) (k : Nat) (hk : iCo k) (r1 : Nat) (hr1 : iSh r1) {Q : Option Value → SQ → Prop} (v3 : Int32) (v4 : Int32) (v5 : Int32) (q : SQ) {t : Int32 × SQ} (h : F0_pass_8 k r1 v3 v4 v5 q = some t) (hk9 : Q (some (.int t.1)) t.2) : PF0_pass l Q 8 [(0, .ref k), (1, .ref r1), (2, .ref 23), (3, .int v3), (4, .int v4), (5, .int v5)] [] q := by
  unfold F0_pass_8 at h
  have st : ∀ (s : Int32 × Int32 × Int32 × SQ) (res : (Int32 × Int32 × Int32 × SQ) ⊕ (Int32 × SQ)), F0_pass_8b k r1 s.1 s.2.1 s.2.2.1 s.2.2.2 = some res → (∀ s2, res = .inl s2 → PF0_pass l Q 8 [(0, .ref k), (1, .ref r1), (2, .ref 23), (3, .int s2.1), (4, .int s2.2.1), (5, .int s2.2.2.1)] [] s2.2.2.2) → (∀ t2, res = .inr t2 → Q (some (.int t2.1)) t2.2) → PF0_pass l Q 8 [(0, .ref k), (1, .ref r1), (2, .ref 23), (3, .int s.1), (4, .int s.2.1), (5, .int s.2.2.1)] [] s.2.2.2 :=
    fun s res hb hi ho => F0_pass_8b_ok l k hk r1 hr1 s.1 s.2.1 s.2.2.1 s.2.2.2 hb ⟨hi, ho⟩
  have h9 : PF0_pass l Q 8 [(0, .ref k), (1, .ref r1), (2, .ref 23), (3, .int v3), (4, .int v4), (5, .int v5)] [] q := sx_lp (body := fun s => F0_pass_8b k r1 s.1 s.2.1 s.2.2.1 s.2.2.2) (P := fun s => PF0_pass l Q 8 [(0, .ref k), (1, .ref r1), (2, .ref 23), (3, .int s.1), (4, .int s.2.1), (5, .int s.2.2.1)] [] s.2.2.2) (T := fun t => Q (some (.int t.1)) t.2) st FU (v3, v4, v5, q) t h hk9
  exact h9
def F0_pass (k : Nat) (r1 : Nat)  (q : SQ) : Option (Int32 × SQ) :=
  F0_pass_8 k r1 (0 : Int32) (0 : Int32) (0 : Int32) q
set_option maxHeartbeats 400000 in
theorem F0_pass_ok (l : Launch) (k : Nat) (hk : iCo k) (r1 : Nat) (hr1 : iSh r1) {Q : Option Value → SQ → Prop}  (q : SQ) {res : Int32 × SQ} (h : F0_pass k r1  q = some res) (hk9 : Q (some (.int res.1)) res.2) : PF0_pass l Q 0 [(0, .ref k), (1, .ref r1), (2, .ref 23)] [] q := by
  unfold F0_pass at h
  refine sx_iconst (v := (0 : Int32)) dX0_pass_0 (by decide) ?_
  refine sx_istore_n (ls2 := [(3, .int (0 : Int32)), (0, .ref k), (1, .ref r1), (2, .ref 23)]) dX0_pass_1 rfl (by decide) rfl ?_
  refine sx_iconst (v := (0 : Int32)) dX0_pass_2 (by decide) ?_
  refine sx_istore (ls2 := [(4, .int (0 : Int32)), (3, .int (0 : Int32)), (0, .ref k), (1, .ref r1), (2, .ref 23)]) dX0_pass_3 (by decide) rfl ?_
  refine sx_iconst (v := (0 : Int32)) dX0_pass_5 (by decide) ?_
  refine sx_istore (ls2 := [(5, .int (0 : Int32)), (4, .int (0 : Int32)), (3, .int (0 : Int32)), (0, .ref k), (1, .ref r1), (2, .ref 23)]) dX0_pass_6 (by decide) rfl ?_
  refine sx_locs [3, 4, 5, 2, 1, 0] rfl ?_
  exact F0_pass_8_ok l k hk r1 hr1 (0 : Int32) (0 : Int32) (0 : Int32) q h hk9
theorem F0_pass_ck (l : Launch) (k : Nat) (hk : iCo k) (r1 : Nat) (hr1 : iSh r1)  (q : SQ) {r : Int32 × SQ} (h : F0_pass k r1  q = some r) : CK shX vwCl KX tfX l yX0_pass cX0_pass 9 ((some .int)) 4 97 [.ref k, .ref r1, .ref 23] q (some (.int r.1)) r.2 :=
  CK.of mi_X0_pass (Nat.le_of_ble_eq_true rfl) (F0_pass_ok l k hk r1 hr1  q h ⟨rfl, rfl⟩)
