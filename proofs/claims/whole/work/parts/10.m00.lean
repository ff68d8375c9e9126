theorem mi_X6_within : sx_MI yX6_within cX6_within 3 ((some .boolean)) 3 := ⟨by decide, ⟨by decide, by decide, by decide +kernel⟩, gw_335, gw_60⟩
abbrev PF6_within (l : Launch) (Q : Option Value → SQ → Prop) : Nat → List (Nat × Value) → List Value → SQ → Prop := XX shX vwCl KX tfX l RX6 cX6_within 3 ((some .boolean)) { frames := 0, cells := 0, slots := 0, locals := 0 } Q
def F6_within_14   (q : SQ) : Option (Int32 × SQ) :=
  some ((0 : Int32), q)
set_option maxHeartbeats 400000 in
theorem F6_within_14_ok (l : Launch)  {Q : Option Value → SQ → Prop}  (q : SQ) {res : Int32 × SQ} (h : F6_within_14   q = some res) (hk9 : Q (some (.int res.1)) res.2) : PF6_within l Q 14 [] [] q := by
  unfold F6_within_14 at h
  refine sx_iconst (v := (0 : Int32)) dX6_within_14 (by decide) ?_
  obtain rfl := Option.some.inj h
  exact sx_zret dX6_within_15 rfl (by decide) hk9
def F6_within  (v0 : Int32) (v1 : Int32) (v2 : Int32) (q : SQ) : Option (Int32 × SQ) :=
  (if v0 < v1 then F6_within_14   q else (if v2 < v0 then F6_within_14   q else some ((1 : Int32), q)))
set_option maxHeartbeats 400000 in
theorem F6_within_ok (l : Launch)  {Q : Option Value → SQ → Prop} (v0 : Int32) (v1 : Int32) (v2 : Int32) (q : SQ) {res : Int32 × SQ} (h : F6_within  v0 v1 v2 q = some res) (hk9 : Q (some (.int res.1)) res.2) : PF6_within l Q 0 [(0, .int v0), (1, .int v1), (2, .int v2)] [] q := by
  unfold F6_within at h
  refine sx_iload_n dX6_within_0 rfl rfl ?_
  refine sx_iload_n dX6_within_1 rfl rfl ?_
  refine sx_icmp_lt (tgt := 14) dX6_within_2 (by decide) (fun c9 => ?_) (fun c9 => ?_)
  · replace h := sx_ip h c9
    refine sx_locs [] rfl ?_
    exact F6_within_14_ok l   q h hk9
  · replace h := sx_in h c9
    refine sx_iload_n dX6_within_5 rfl rfl ?_
    refine sx_iload_n dX6_within_6 rfl rfl ?_
    refine sx_icmp_gt (tgt := 14) dX6_within_7 (by decide) (fun c9 => ?_) (fun c9 => ?_)
    · replace h := sx_ip h c9
      refine sx_locs [] rfl ?_
      exact F6_within_14_ok l   q h hk9
    · replace h := sx_in h c9
      refine sx_iconst (v := (1 : Int32)) dX6_within_10 (by decide) ?_
      refine sx_goto (tgt := 15) dX6_within_11 (by decide) ?_
      obtain rfl := Option.some.inj h
      exact sx_zret dX6_within_15 rfl (by decide) hk9
theorem F6_within_ck (l : Launch)  (v0 : Int32) (v1 : Int32) (v2 : Int32) (q : SQ) {r : Int32 × SQ} (h : F6_within  v0 v1 v2 q = some r) : CK shX vwCl KX tfX l yX6_within cX6_within 3 ((some .boolean)) 0 0 [.int v0, .int v1, .int v2] q (some (.int r.1)) r.2 :=
  CK.of mi_X6_within (Nat.le_of_ble_eq_true rfl) (F6_within_ok l  v0 v1 v2 q h ⟨rfl, rfl⟩)
theorem mi_X3_hear : sx_MI yX3_hear cX3_hear 5 ((some .boolean)) 2 := ⟨by decide, ⟨by decide, by decide, by decide +kernel⟩, gw_339, gw_62⟩
abbrev PF3_hear (l : Launch) (Q : Option Value → SQ → Prop) : Nat → List (Nat × Value) → List Value → SQ → Prop := XX shX vwCl KX tfX l RX3 cX3_hear 5 ((some .boolean)) { frames := 0, cells := 0, slots := 0, locals := 0 } Q
def F3_hear_19b  (v1 : Int64) (v4 : Int32) (q : SQ) : Option ((Int32 × SQ) ⊕ (Int32 × SQ)) :=
  (if v4 < 0 then some (.inr ((1 : Int32), q)) else (if sx_ix (gI q 8 0) 400 = true then sx_let (sI q 9 (gI q 8 0).toNatClampNeg ((((v1.toUInt64 >>> (((8 : Int32) * v4).toInt64.toUInt64 &&& Int64.toUInt64 63)).toInt64).toInt32) &&& (255 : Int32))) (fun q2 => sx_let (sI q2 8 0 ((gI q2 8 0) + (1 : Int32))) (fun q3 => sx_let (v4 + (-1 : Int32)) (fun x4 => some (.inl (x4, q3))))) else none))
set_option maxHeartbeats 400000 in
theorem F3_hear_19b_ok (l : Launch)  {Q : Option Value → SQ → Prop} (v1 : Int64) (v4 : Int32) (q : SQ) {res : (Int32 × SQ) ⊕ (Int32 × SQ)} (h : F3_hear_19b  v1 v4 q = some res) (hk9 : (∀ a5, res = .inl a5 → PF3_hear l Q 19 [(0, .ref 8), (1, .long v1), (4, .int a5.1)] [] a5.2) ∧ (∀ b6, res = .inr b6 → Q (some (.int b6.1)) b6.2)) : PF3_hear l Q 19 [(0, .ref 8), (1, .long v1), (4, .int v4)] [] q := by
  unfold F3_hear_19b at h
  refine sx_iload dX3_hear_19 rfl ?_
  refine sx_if_lt (tgt := 61) dX3_hear_21 (by decide) (fun c9 => ?_) (fun c9 => ?_)
  · replace h := sx_ip h c9
    refine sx_iconst (v := (1 : Int32)) dX3_hear_61 (by decide) ?_
    have hk9 := hk9.2 _ (Option.some.inj h).symm
    exact sx_zret dX3_hear_62 rfl (by decide) hk9
  · replace h := sx_in h c9
    refine sx_aload_n dX3_hear_24 rfl rfl ?_
    refine sx_getR dX3_hear_25 (hs := shX_8) (k9 := 1) (hf := rfl) cb_X3 ⟨by decide, rfl, gw_157⟩ ?_
    refine sx_aload_n dX3_hear_28 rfl rfl ?_
    refine sx_getI dX3_hear_29 (hs := shX_8) (k9 := 0) (hf := rfl) cb_X3 ⟨by decide, rfl, gw_155⟩ ?_
    refine sx_lload_n dX3_hear_32 rfl rfl ?_
    refine sx_bipush (v := (8 : Int32)) dX3_hear_33 (by decide) ?_
    refine sx_iload dX3_hear_35 rfl ?_
    refine sx_imul dX3_hear_37 ?_
    refine sx_lushr dX3_hear_38 ?_
    refine sx_l2i dX3_hear_39 ?_
    refine sx_sipush (v := (255 : Int32)) dX3_hear_40 (by decide) ?_
    refine sx_iand dX3_hear_43 ?_
    obtain ⟨g9, h⟩ := sx_gd h
    obtain ⟨q2, eq2, h⟩ := sx_lt h
    refine sx_iast dX3_hear_44 shX_9 (fun _ _ => rfl) (sx_ix_in g9) ?_
    refine sx_nmQ eq2 ?_
    refine sx_aload_n dX3_hear_45 rfl rfl ?_
    refine sx_dup dX3_hear_46 rfl ?_
    refine sx_getI dX3_hear_47 (hs := shX_8) (k9 := 0) (hf := rfl) cb_X3 ⟨by decide, rfl, gw_155⟩ ?_
    refine sx_iconst (v := (1 : Int32)) dX3_hear_50 (by decide) ?_
    refine sx_iadd dX3_hear_51 ?_
    obtain ⟨q3, eq3, h⟩ := sx_lt h
    refine sx_putI dX3_hear_52 (hs := shX_8) (k9 := 0) (hf := rfl) cb_X3 ⟨by decide, rfl, gw_155⟩ rfl (by decide) ?_
    refine sx_nmQ eq3 ?_
    obtain ⟨x4, ex4, h⟩ := sx_lt h
    refine sx_iinc (k9 := 2) (v := x4) (ls2 := [(4, .int x4), (0, .ref 8), (1, .long v1)]) dX3_hear_55 rfl (by rw [ex4, sx_ofI_m1]) (by decide) rfl ?_
    refine sx_goto (tgt := 19) dX3_hear_58 (by decide) ?_
    refine sx_locs [1, 2, 0] rfl ?_
    exact hk9.1 (x4, q3) (Option.some.inj h).symm
def F3_hear_19  (v1 : Int64) (v4 : Int32) (q : SQ) : Option (Int32 × SQ) := sx_loop (fun s7 => F3_hear_19b  v1 s7.1 s7.2) FU (v4, q)
set_option maxHeartbeats 400000 in
theorem F3_hear_19_ok (l : Launch)  {Q : Option Value → SQ → Prop} (v1 : Int64) (v4 : Int32) (q : SQ) {t : Int32 × SQ} (h : F3_hear_19  v1 v4 q = some t) (hk9 : Q (some (.int t.1)) t.2) : PF3_hear l Q 19 [(0, .ref 8), (1, .long v1), (4, .int v4)] [] q := by
  unfold F3_hear_19 at h
  have st : ∀ (s : Int32 × SQ) (res : (Int32 × SQ) ⊕ (Int32 × SQ)), F3_hear_19b  v1 s.1 s.2 = some res → (∀ s2, res = .inl s2 → PF3_hear l Q 19 [(0, .ref 8), (1, .long v1), (4, .int s2.1)] [] s2.2) → (∀ t2, res = .inr t2 → Q (some (.int t2.1)) t2.2) → PF3_hear l Q 19 [(0, .ref 8), (1, .long v1), (4, .int s.1)] [] s.2 :=
    fun s res hb hi ho => F3_hear_19b_ok l  v1 s.1 s.2 hb ⟨hi, ho⟩
  have h9 : PF3_hear l Q 19 [(0, .ref 8), (1, .long v1), (4, .int v4)] [] q := sx_lp (body := fun s => F3_hear_19b  v1 s.1 s.2) (P := fun s => PF3_hear l Q 19 [(0, .ref 8), (1, .long v1), (4, .int s.1)] [] s.2) (T := fun t => Q (some (.int t.1)) t.2) st FU (v4, q) t h hk9
  exact h9
def F3_hear  (v1 : Int64) (v3 : Int32) (q : SQ) : Option (Int32 × SQ) :=
  (if (gI q 8 0) + v3 ≤ (400 : Int32) then sx_let (v3 - (1 : Int32)) (fun x1 => F3_hear_19  v1 x1 q) else some ((0 : Int32), q))
set_option maxHeartbeats 400000 in
theorem F3_hear_ok (l : Launch)  {Q : Option Value → SQ → Prop} (v1 : Int64) (v3 : Int32) (q : SQ) {res : Int32 × SQ} (h : F3_hear  v1 v3 q = some res) (hk9 : Q (some (.int res.1)) res.2) : PF3_hear l Q 0 [(0, .ref 8), (1, .long v1), (3, .int v3)] [] q := by
  unfold F3_hear at h
  refine sx_aload_n dX3_hear_0 rfl rfl ?_
  refine sx_getI dX3_hear_1 (hs := shX_8) (k9 := 0) (hf := rfl) cb_X3 ⟨by decide, rfl, gw_155⟩ ?_
  refine sx_iload_n dX3_hear_4 rfl rfl ?_
  refine sx_iadd dX3_hear_5 ?_
  refine sx_sipush (v := (400 : Int32)) dX3_hear_6 (by decide) ?_
  refine sx_icmp_le (tgt := 14) dX3_hear_9 (by decide) (fun c9 => ?_) (fun c9 => ?_)
  · replace h := sx_ip h c9
    refine sx_iload_n dX3_hear_14 rfl rfl ?_
    refine sx_iconst (v := (1 : Int32)) dX3_hear_15 (by decide) ?_
    refine sx_isub dX3_hear_16 ?_
    obtain ⟨x1, ex1, h⟩ := sx_lt h
    refine sx_nmI ex1 ?_
    refine sx_istore (ls2 := [(4, .int x1), (0, .ref 8), (1, .long v1), (3, .int v3)]) dX3_hear_17 (by decide) rfl ?_
    refine sx_locs [1, 2, 0] rfl ?_
    exact F3_hear_19_ok l  v1 x1 q h hk9
  · replace h := sx_in h c9
    refine sx_iconst (v := (0 : Int32)) dX3_hear_12 (by decide) ?_
    obtain rfl := Option.some.inj h
    exact sx_zret dX3_hear_13 rfl (by decide) hk9
theorem F3_hear_ck (l : Launch)  (v1 : Int64) (v3 : Int32) (q : SQ) {r : Int32 × SQ} (h : F3_hear  v1 v3 q = some r) : CK shX vwCl KX tfX l yX3_hear cX3_hear 5 ((some .boolean)) 0 0 [.ref 8, .long v1, .int v3] q (some (.int r.1)) r.2 :=
  CK.of mi_X3_hear (Nat.le_of_ble_eq_true rfl) (F3_hear_ok l  v1 v3 q h ⟨rfl, rfl⟩)
theorem mi_X6_type : sx_MI yX6_type cX6_type 4 ((some .int)) 2 := ⟨by decide, ⟨by decide, by decide, by decide +kernel⟩, gw_332, gw_60⟩
abbrev PF6_type (l : Launch) (Q : Option Value → SQ → Prop) : Nat → List (Nat × Value) → List Value → SQ → Prop := XX shX vwCl KX tfX l RX6 cX6_type 4 ((some .int)) { frames := 1, cells := 0, slots := 0, locals := 24 } Q
def F6_type  (v1 : Int64) (v3 : Int32) (q : SQ) : Option (Int32 × SQ) :=
  (F6_within  v3 (1 : Int32) (8 : Int32) q).bind (fun z1 => (if z1.1 = 0 then some ((-1 : Int32), z1.2) else (F3_hear  v1 v3 z1.2).bind (fun z2 => (if z2.1 = 0 then some ((-3 : Int32), z2.2) else some (gI z2.2 8 0, z2.2)))))
set_option maxHeartbeats 400000 in
theorem F6_type_ok (l : Launch)  {Q : Option Value → SQ → Prop} (v1 : Int64) (v3 : Int32) (q : SQ) {res : Int32 × SQ} (h : F6_type  v1 v3 q = some res) (hk9 : Q (some (.int res.1)) res.2) : PF6_type l Q 0 [(0, .ref 0), (1, .long v1), (3, .int v3)] [] q := by
  unfold F6_type at h
  refine sx_iload_n dX6_type_0 rfl rfl ?_
  refine sx_iconst (v := (1 : Int32)) dX6_type_1 (by decide) ?_
  refine sx_bipush (v := (8 : Int32)) dX6_type_2 (by decide) ?_
  obtain ⟨z1, hz1, h⟩ := sx_bd h
  refine sx_callS (As := [.int v3, .int (1 : Int32), .int (8 : Int32)]) (rest := []) KSX (F6_within_ck l  v3 (1 : Int32) (8 : Int32) q hz1) mi_X6_within gw_333 rfl gw_334 ⟨Nat.le_of_ble_eq_true rfl, Nat.le_of_ble_eq_true rfl⟩ (Nat.le_of_ble_eq_true rfl) dX6_type_4 rfl ?_
  refine sx_if_ne (tgt := 12) dX6_type_7 (by decide) (fun c9 => ?_) (fun c9 => ?_)
  · replace h := sx_in h c9
    refine sx_aload_n dX6_type_12 rfl rfl ?_
    refine sx_getR dX6_type_13 (hs := shX_0) (k9 := 1) (hf := rfl) cb_X6 ⟨by decide, rfl, gw_293⟩ ?_
    refine sx_lload_n dX6_type_16 rfl rfl ?_
    refine sx_iload_n dX6_type_17 rfl rfl ?_
    obtain ⟨z2, hz2, h⟩ := sx_bd h
    refine sx_callV (o := 8) (As := [.long v1, .int v3]) (rest := []) KSX (F3_hear_ck l  v1 v3 z1.2 hz2) mi_X3_hear gw_336 rfl ⟨gw_337, gw_338⟩ shX_8 rfl rfl ⟨Nat.le_of_ble_eq_true rfl, Nat.le_of_ble_eq_true rfl⟩ (Nat.le_of_ble_eq_true rfl) dX6_type_18 rfl ?_
    refine sx_if_eq (tgt := 34) dX6_type_21 (by decide) (fun c9 => ?_) (fun c9 => ?_)
    · replace h := sx_ip h c9
      refine sx_bipush (v := (-3 : Int32)) dX6_type_34 (by decide) ?_
      obtain rfl := Option.some.inj h
      exact sx_iret dX6_type_36 rfl hk9
    · replace h := sx_in h c9
      refine sx_aload_n dX6_type_24 rfl rfl ?_
      refine sx_getR dX6_type_25 (hs := shX_0) (k9 := 1) (hf := rfl) cb_X6 ⟨by decide, rfl, gw_293⟩ ?_
      refine sx_getI dX6_type_28 (hs := shX_8) (k9 := 0) (hf := rfl) cb_X3 ⟨by decide, rfl, gw_156⟩ ?_
      refine sx_goto (tgt := 36) dX6_type_31 (by decide) ?_
      obtain rfl := Option.some.inj h
      exact sx_iret dX6_type_36 rfl hk9
  · replace h := sx_ip h c9
    refine sx_iconst (v := (-1 : Int32)) dX6_type_10 (by decide) ?_
    obtain rfl := Option.some.inj h
    exact sx_iret dX6_type_11 rfl hk9
theorem F6_type_ck (l : Launch)  (v1 : Int64) (v3 : Int32) (q : SQ) {r : Int32 × SQ} (h : F6_type  v1 v3 q = some r) : CK shX vwCl KX tfX l yX6_type cX6_type 4 ((some .int)) 1 24 [.ref 0, .long v1, .int v3] q (some (.int r.1)) r.2 :=
  CK.of mi_X6_type (Nat.le_of_ble_eq_true rfl) (F6_type_ok l  v1 v3 q h ⟨rfl, rfl⟩)
theorem mi_X6_clear : sx_MI yX6_clear cX6_clear 2 ((some .int)) 0 := ⟨by decide, ⟨by decide, by decide, by decide +kernel⟩, gw_343, gw_60⟩
abbrev PF6_clear (l : Launch) (Q : Option Value → SQ → Prop) : Nat → List (Nat × Value) → List Value → SQ → Prop := XX shX vwCl KX tfX l RX6 cX6_clear 2 ((some .int)) { frames := 0, cells := 0, slots := 0, locals := 0 } Q
def F6_clear   (q : SQ) : Option (Int32 × SQ) :=
  sx_let (gI q 8 0) (fun x1 => sx_let (sI q 8 0 (0 : Int32)) (fun q2 => some (x1, q2)))
set_option maxHeartbeats 400000 in
theorem F6_clear_ok (l : Launch)  {Q : Option Value → SQ → Prop}  (q : SQ) {res : Int32 × SQ} (h : F6_clear   q = some res) (hk9 : Q (some (.int res.1)) res.2) : PF6_clear l Q 0 [(0, .ref 0)] [] q := by
  unfold F6_clear at h
  refine sx_aload_n dX6_clear_0 rfl rfl ?_
  refine sx_getR dX6_clear_1 (hs := shX_0) (k9 := 1) (hf := rfl) cb_X6 ⟨by decide, rfl, gw_293⟩ ?_
  refine sx_getI dX6_clear_4 (hs := shX_8) (k9 := 0) (hf := rfl) cb_X3 ⟨by decide, rfl, gw_156⟩ ?_
  obtain ⟨x1, ex1, h⟩ := sx_lt h
  refine sx_nmI ex1 ?_
  refine sx_istore_n (ls2 := [(1, .int x1), (0, .ref 0)]) dX6_clear_7 rfl (by decide) rfl ?_
  refine sx_aload_n dX6_clear_8 rfl rfl ?_
  refine sx_getR dX6_clear_9 (hs := shX_0) (k9 := 1) (hf := rfl) cb_X6 ⟨by decide, rfl, gw_293⟩ ?_
  refine sx_iconst (v := (0 : Int32)) dX6_clear_12 (by decide) ?_
  obtain ⟨q2, eq2, h⟩ := sx_lt h
  refine sx_putI dX6_clear_13 (hs := shX_8) (k9 := 0) (hf := rfl) cb_X3 ⟨by decide, rfl, gw_156⟩ rfl (by decide) ?_
  refine sx_nmQ eq2 ?_
  refine sx_iload_n dX6_clear_16 rfl rfl ?_
  obtain rfl := Option.some.inj h
  exact sx_iret dX6_clear_17 rfl hk9
theorem F6_clear_ck (l : Launch)   (q : SQ) {r : Int32 × SQ} (h : F6_clear   q = some r) : CK shX vwCl KX tfX l yX6_clear cX6_clear 2 ((some .int)) 0 0 [.ref 0] q (some (.int r.1)) r.2 :=
  CK.of mi_X6_clear (Nat.le_of_ble_eq_true rfl) (F6_clear_ok l   q h ⟨rfl, rfl⟩)
theorem mi_X3_isLetter : sx_MI yX3_isLetter cX3_isLetter 1 ((some .boolean)) 1 := ⟨by decide, ⟨by decide, by decide, by decide +kernel⟩, gw_362, gw_62⟩
abbrev PF3_isLetter (l : Launch) (Q : Option Value → SQ → Prop) : Nat → List (Nat × Value) → List Value → SQ → Prop := XX shX vwCl KX tfX l RX3 cX3_isLetter 1 ((some .boolean)) { frames := 0, cells := 0, slots := 0, locals := 0 } Q
def F3_isLetter_16   (q : SQ) : Option (Int32 × SQ) :=
  some ((0 : Int32), q)
set_option maxHeartbeats 400000 in
theorem F3_isLetter_16_ok (l : Launch)  {Q : Option Value → SQ → Prop}  (q : SQ) {res : Int32 × SQ} (h : F3_isLetter_16   q = some res) (hk9 : Q (some (.int res.1)) res.2) : PF3_isLetter l Q 16 [] [] q := by
  unfold F3_isLetter_16 at h
  refine sx_iconst (v := (0 : Int32)) dX3_isLetter_16 (by decide) ?_
  obtain rfl := Option.some.inj h
  exact sx_zret dX3_isLetter_17 rfl (by decide) hk9
def F3_isLetter  (v0 : Int32) (q : SQ) : Option (Int32 × SQ) :=
  (if v0 < (97 : Int32) then F3_isLetter_16   q else (if (122 : Int32) < v0 then F3_isLetter_16   q else some ((1 : Int32), q)))
set_option maxHeartbeats 400000 in
theorem F3_isLetter_ok (l : Launch)  {Q : Option Value → SQ → Prop} (v0 : Int32) (q : SQ) {res : Int32 × SQ} (h : F3_isLetter  v0 q = some res) (hk9 : Q (some (.int res.1)) res.2) : PF3_isLetter l Q 0 [(0, .int v0)] [] q := by
  unfold F3_isLetter at h
  refine sx_iload_n dX3_isLetter_0 rfl rfl ?_
  refine sx_bipush (v := (97 : Int32)) dX3_isLetter_1 (by decide) ?_
  refine sx_icmp_lt (tgt := 16) dX3_isLetter_3 (by decide) (fun c9 => ?_) (fun c9 => ?_)
  · replace h := sx_ip h c9
    refine sx_locs [] rfl ?_
    exact F3_isLetter_16_ok l   q h hk9
  · replace h := sx_in h c9
    refine sx_iload_n dX3_isLetter_6 rfl rfl ?_
    refine sx_bipush (v := (122 : Int32)) dX3_isLetter_7 (by decide) ?_
    refine sx_icmp_gt (tgt := 16) dX3_isLetter_9 (by decide) (fun c9 => ?_) (fun c9 => ?_)
    · replace h := sx_ip h c9
      refine sx_locs [] rfl ?_
      exact F3_isLetter_16_ok l   q h hk9
    · replace h := sx_in h c9
      refine sx_iconst (v := (1 : Int32)) dX3_isLetter_12 (by decide) ?_
      refine sx_goto (tgt := 17) dX3_isLetter_13 (by decide) ?_
      obtain rfl := Option.some.inj h
      exact sx_zret dX3_isLetter_17 rfl (by decide) hk9
theorem F3_isLetter_ck (l : Launch)  (v0 : Int32) (q : SQ) {r : Int32 × SQ} (h : F3_isLetter  v0 q = some r) : CK shX vwCl KX tfX l yX3_isLetter cX3_isLetter 1 ((some .boolean)) 0 0 [.int v0] q (some (.int r.1)) r.2 :=
  CK.of mi_X3_isLetter (Nat.le_of_ble_eq_true rfl) (F3_isLetter_ok l  v0 q h ⟨rfl, rfl⟩)
theorem mi_X3_isDigit : sx_MI yX3_isDigit cX3_isDigit 1 ((some .boolean)) 1 := ⟨by decide, ⟨by decide, by decide, by decide +kernel⟩, gw_365, gw_62⟩
abbrev PF3_isDigit (l : Launch) (Q : Option Value → SQ → Prop) : Nat → List (Nat × Value) → List Value → SQ → Prop := XX shX vwCl KX tfX l RX3 cX3_isDigit 1 ((some .boolean)) { frames := 0, cells := 0, slots := 0, locals := 0 } Q
def F3_isDigit_16   (q : SQ) : Option (Int32 × SQ) :=
  some ((0 : Int32), q)
set_option maxHeartbeats 400000 in
theorem F3_isDigit_16_ok (l : Launch)  {Q : Option Value → SQ → Prop}  (q : SQ) {res : Int32 × SQ} (h : F3_isDigit_16   q = some res) (hk9 : Q (some (.int res.1)) res.2) : PF3_isDigit l Q 16 [] [] q := by
  unfold F3_isDigit_16 at h
  refine sx_iconst (v := (0 : Int32)) dX3_isDigit_16 (by decide) ?_
  obtain rfl := Option.some.inj h
  exact sx_zret dX3_isDigit_17 rfl (by decide) hk9
def F3_isDigit  (v0 : Int32) (q : SQ) : Option (Int32 × SQ) :=
  (if v0 < (48 : Int32) then F3_isDigit_16   q else (if (57 : Int32) < v0 then F3_isDigit_16   q else some ((1 : Int32), q)))
set_option maxHeartbeats 400000 in
theorem F3_isDigit_ok (l : Launch)  {Q : Option Value → SQ → Prop} (v0 : Int32) (q : SQ) {res : Int32 × SQ} (h : F3_isDigit  v0 q = some res) (hk9 : Q (some (.int res.1)) res.2) : PF3_isDigit l Q 0 [(0, .int v0)] [] q := by
  unfold F3_isDigit at h
  refine sx_iload_n dX3_isDigit_0 rfl rfl ?_
  refine sx_bipush (v := (48 : Int32)) dX3_isDigit_1 (by decide) ?_
  refine sx_icmp_lt (tgt := 16) dX3_isDigit_3 (by decide) (fun c9 => ?_) (fun c9 => ?_)
  · replace h := sx_ip h c9
    refine sx_locs [] rfl ?_
    exact F3_isDigit_16_ok l   q h hk9
  · replace h := sx_in h c9
    refine sx_iload_n dX3_isDigit_6 rfl rfl ?_
    refine sx_bipush (v := (57 : Int32)) dX3_isDigit_7 (by decide) ?_
    refine sx_icmp_gt (tgt := 16) dX3_isDigit_9 (by decide) (fun c9 => ?_) (fun c9 => ?_)
    · replace h := sx_ip h c9
      refine sx_locs [] rfl ?_
      exact F3_isDigit_16_ok l   q h hk9
    · replace h := sx_in h c9
      refine sx_iconst (v := (1 : Int32)) dX3_isDigit_12 (by decide) ?_
      refine sx_goto (tgt := 17) dX3_isDigit_13 (by decide) ?_
      obtain rfl := Option.some.inj h
      exact sx_zret dX3_isDigit_17 rfl (by decide) hk9
theorem F3_isDigit_ck (l : Launch)  (v0 : Int32) (q : SQ) {r : Int32 × SQ} (h : F3_isDigit  v0 q = some r) : CK shX vwCl KX tfX l yX3_isDigit cX3_isDigit 1 ((some .boolean)) 0 0 [.int v0] q (some (.int r.1)) r.2 :=
  CK.of mi_X3_isDigit (Nat.le_of_ble_eq_true rfl) (F3_isDigit_ok l  v0 q h ⟨rfl, rfl⟩)
theorem mi_X3_rowEnd : sx_MI yX3_rowEnd cX3_rowEnd 5 ((some .int)) 1 := ⟨by decide, ⟨by decide, by decide, by decide +kernel⟩, gw_359, gw_62⟩
abbrev PF3_rowEnd (l : Launch) (Q : Option Value → SQ → Prop) : Nat → List (Nat × Value) → List Value → SQ → Prop := XX shX vwCl KX tfX l RX3 cX3_rowEnd 5 ((some .int)) { frames := 1, cells := 0, slots := 0, locals := 20 } Q
def F3_rowEnd_74  (v4 : Int32) (q : SQ) : Option (Int32 × SQ) :=
  some (v4, q)
set_option maxHeartbeats 400000 in
theorem F3_rowEnd_74_ok (l : Launch)  {Q : Option Value → SQ → Prop} (v4 : Int32) (q : SQ) {res : Int32 × SQ} (h : F3_rowEnd_74  v4 q = some res) (hk9 : Q (some (.int res.1)) res.2) : PF3_rowEnd l Q 74 [(4, .int v4)] [] q := by
  unfold F3_rowEnd_74 at h
  refine sx_iload dX3_rowEnd_74 rfl ?_
  obtain rfl := Option.some.inj h
  exact sx_iret dX3_rowEnd_76 rfl hk9
def F3_rowEnd_68  (v2 : Int32) (v3 : Int32) (v4 : Int32) (q : SQ) : Option ((Int32 × SQ) ⊕ (Int32 × SQ)) :=
  sx_let (v4 + (1 : Int32)) (fun x7 => some (.inl (x7, q)))
set_option maxHeartbeats 400000 in
theorem F3_rowEnd_68_ok (l : Launch)  {Q : Option Value → SQ → Prop} (v2 : Int32) (v3 : Int32) (v4 : Int32) (q : SQ) {res : (Int32 × SQ) ⊕ (Int32 × SQ)} (h : F3_rowEnd_68  v2 v3 v4 q = some res) (hk9 : (∀ a8, res = .inl a8 → PF3_rowEnd l Q 25 [(0, .ref 8), (2, .int v2), (3, .int v3), (4, .int a8.1)] [] a8.2) ∧ (∀ b9, res = .inr b9 → Q (some (.int b9.1)) b9.2)) : PF3_rowEnd l Q 68 [(0, .ref 8), (2, .int v2), (3, .int v3), (4, .int v4)] [] q := by
  unfold F3_rowEnd_68 at h
  obtain ⟨x7, ex7, h⟩ := sx_lt h
  refine sx_iinc (k9 := 3) (v := x7) (ls2 := [(4, .int x7), (0, .ref 8), (2, .int v2), (3, .int v3)]) dX3_rowEnd_68 rfl (by rw [ex7, sx_ofI1]) (by decide) rfl ?_
  refine sx_goto (tgt := 25) dX3_rowEnd_71 (by decide) ?_
  refine sx_locs [1, 2, 3, 0] rfl ?_
  exact hk9.1 (x7, q) (Option.some.inj h).symm
def F3_rowEnd_51  (v2 : Int32) (v3 : Int32) (v4 : Int32) (q : SQ) : Option ((Int32 × SQ) ⊕ (Int32 × SQ)) :=
  (if v3 = 0 then (F3_rowEnd_74  v4 q).map .inr else (if sx_ix v4 400 = true then (F3_isDigit  (gI q 9 v4.toNatClampNeg) q).bind (fun z6 => (if z6.1 = 0 then (F3_rowEnd_74  v4 z6.2).map .inr else F3_rowEnd_68  v2 v3 v4 z6.2)) else none))
set_option maxHeartbeats 400000 in
theorem F3_rowEnd_51_ok (l : Launch)  {Q : Option Value → SQ → Prop} (v2 : Int32) (v3 : Int32) (v4 : Int32) (q : SQ) {res : (Int32 × SQ) ⊕ (Int32 × SQ)} (h : F3_rowEnd_51  v2 v3 v4 q = some res) (hk9 : (∀ a10, res = .inl a10 → PF3_rowEnd l Q 25 [(0, .ref 8), (2, .int v2), (3, .int v3), (4, .int a10.1)] [] a10.2) ∧ (∀ b11, res = .inr b11 → Q (some (.int b11.1)) b11.2)) : PF3_rowEnd l Q 51 [(0, .ref 8), (2, .int v2), (3, .int v3), (4, .int v4)] [] q := by
  unfold F3_rowEnd_51 at h
  refine sx_iload_n dX3_rowEnd_51 rfl rfl ?_
  refine sx_if_eq (tgt := 74) dX3_rowEnd_52 (by decide) (fun c9 => ?_) (fun c9 => ?_)
  · replace h := sx_ip h c9
    obtain ⟨t9, h, hr9⟩ := sx_mp h
    have hk9 := hk9.2 _ hr9
    refine sx_locs [3] rfl ?_
    exact F3_rowEnd_74_ok l  v4 q h hk9
  · replace h := sx_in h c9
    refine sx_aload_n dX3_rowEnd_55 rfl rfl ?_
    refine sx_getR dX3_rowEnd_56 (hs := shX_8) (k9 := 1) (hf := rfl) cb_X3 ⟨by decide, rfl, gw_157⟩ ?_
    refine sx_iload dX3_rowEnd_59 rfl ?_
    obtain ⟨g9, h⟩ := sx_gd h
    refine sx_iald dX3_rowEnd_61 shX_9 (fun _ _ => rfl) (sx_ix_in g9) ?_
    obtain ⟨z6, hz6, h⟩ := sx_bd h
    refine sx_callS (As := [.int (gI q 9 v4.toNatClampNeg)]) (rest := []) KSX (F3_isDigit_ck l  (gI q 9 v4.toNatClampNeg) q hz6) mi_X3_isDigit gw_363 rfl gw_364 ⟨Nat.le_of_ble_eq_true rfl, Nat.le_of_ble_eq_true rfl⟩ (Nat.le_of_ble_eq_true rfl) dX3_rowEnd_62 rfl ?_
    refine sx_if_eq (tgt := 74) dX3_rowEnd_65 (by decide) (fun c9 => ?_) (fun c9 => ?_)
    · replace h := sx_ip h c9
      obtain ⟨t9, h, hr9⟩ := sx_mp h
      have hk9 := hk9.2 _ hr9
      refine sx_locs [3] rfl ?_
      exact F3_rowEnd_74_ok l  v4 z6.2 h hk9
    · replace h := sx_in h c9
      exact F3_rowEnd_68_ok l  v2 v3 v4 z6.2 h hk9
def F3_rowEnd_25b  (v2 : Int32) (v3 : Int32) (v4 : Int32) (q : SQ) : Option ((Int32 × SQ) ⊕ (Int32 × SQ)) :=
  (if gI q 8 0 ≤ v4 then (F3_rowEnd_74  v4 q).map .inr else (if v2 = 0 then F3_rowEnd_51  v2 v3 v4 q else (if sx_ix v4 400 = true then (F3_isLetter  (gI q 9 v4.toNatClampNeg) q).bind (fun z12 => (if z12.1 = 0 then F3_rowEnd_51  v2 v3 v4 z12.2 else F3_rowEnd_68  v2 v3 v4 z12.2)) else none)))
set_option maxHeartbeats 400000 in
theorem F3_rowEnd_25b_ok (l : Launch)  {Q : Option Value → SQ → Prop} (v2 : Int32) (v3 : Int32) (v4 : Int32) (q : SQ) {res : (Int32 × SQ) ⊕ (Int32 × SQ)} (h : F3_rowEnd_25b  v2 v3 v4 q = some res) (hk9 : (∀ a13, res = .inl a13 → PF3_rowEnd l Q 25 [(0, .ref 8), (2, .int v2), (3, .int v3), (4, .int a13.1)] [] a13.2) ∧ (∀ b14, res = .inr b14 → Q (some (.int b14.1)) b14.2)) : PF3_rowEnd l Q 25 [(0, .ref 8), (2, .int v2), (3, .int v3), (4, .int v4)] [] q := by
  unfold F3_rowEnd_25b at h
  refine sx_iload dX3_rowEnd_25 rfl ?_
  refine sx_aload_n dX3_rowEnd_27 rfl rfl ?_
  refine sx_getI dX3_rowEnd_28 (hs := shX_8) (k9 := 0) (hf := rfl) cb_X3 ⟨by decide, rfl, gw_155⟩ ?_
  refine sx_icmp_ge (tgt := 74) dX3_rowEnd_31 (by decide) (fun c9 => ?_) (fun c9 => ?_)
  · replace h := sx_ip h c9
    obtain ⟨t9, h, hr9⟩ := sx_mp h
    have hk9 := hk9.2 _ hr9
    refine sx_locs [3] rfl ?_
    exact F3_rowEnd_74_ok l  v4 q h hk9
  · replace h := sx_in h c9
    refine sx_iload_n dX3_rowEnd_34 rfl rfl ?_
    refine sx_if_eq (tgt := 51) dX3_rowEnd_35 (by decide) (fun c9 => ?_) (fun c9 => ?_)
    · replace h := sx_ip h c9
      exact F3_rowEnd_51_ok l  v2 v3 v4 q h hk9
    · replace h := sx_in h c9
      refine sx_aload_n dX3_rowEnd_38 rfl rfl ?_
      refine sx_getR dX3_rowEnd_39 (hs := shX_8) (k9 := 1) (hf := rfl) cb_X3 ⟨by decide, rfl, gw_157⟩ ?_
      refine sx_iload dX3_rowEnd_42 rfl ?_
      obtain ⟨g9, h⟩ := sx_gd h
      refine sx_iald dX3_rowEnd_44 shX_9 (fun _ _ => rfl) (sx_ix_in g9) ?_
      obtain ⟨z12, hz12, h⟩ := sx_bd h
      refine sx_callS (As := [.int (gI q 9 v4.toNatClampNeg)]) (rest := []) KSX (F3_isLetter_ck l  (gI q 9 v4.toNatClampNeg) q hz12) mi_X3_isLetter gw_360 rfl gw_361 ⟨Nat.le_of_ble_eq_true rfl, Nat.le_of_ble_eq_true rfl⟩ (Nat.le_of_ble_eq_true rfl) dX3_rowEnd_45 rfl ?_
      refine sx_if_ne (tgt := 68) dX3_rowEnd_48 (by decide) (fun c9 => ?_) (fun c9 => ?_)
      · replace h := sx_in h c9
        exact F3_rowEnd_68_ok l  v2 v3 v4 z12.2 h hk9
      · replace h := sx_ip h c9
        exact F3_rowEnd_51_ok l  v2 v3 v4 z12.2 h hk9
def F3_rowEnd_25  (v2 : Int32) (v3 : Int32) (v4 : Int32) (q : SQ) : Option (Int32 × SQ) := sx_loop (fun s15 => F3_rowEnd_25b  v2 v3 s15.1 s15.2) FU (v4, q)
set_option maxHeartbeats 400000 in
theorem F3_rowEnd_25_ok (l : Launch)  {Q : Option Value → SQ → Prop} (v2 : Int32) (v3 : Int32) (v4 : Int32) (q : SQ) {t : Int32 × SQ} (h : F3_rowEnd_25  v2 v3 v4 q = some t) (hk9 : Q (some (.int t.1)) t.2) : PF3_rowEnd l Q 25 [(0, .ref 8), (2, .int v2), (3, .int v3), (4, .int v4)] [] q := by
  unfold F3_rowEnd_25 at h
  have st : ∀ (s : Int32 × SQ) (res : (Int32 × SQ) ⊕ (Int32 × SQ)), F3_rowEnd_25b  v2 v3 s.1 s.2 = some res → (∀ s2, res = .inl s2 → PF3_rowEnd l Q 25 [(0, .ref 8), (2, .int v2), (3, .int v3), (4, .int s2.1)] [] s2.2) → (∀ t2, res = .inr t2 → Q (some (.int t2.1)) t2.2) → PF3_rowEnd l Q 25 [(0, .ref 8), (2, .int v2), (3, .int v3), (4, .int s.1)] [] s.2 :=
    fun s res hb hi ho => F3_rowEnd_25b_ok l  v2 v3 s.1 s.2 hb ⟨hi, ho⟩
  have h9 : PF3_rowEnd l Q 25 [(0, .ref 8), (2, .int v2), (3, .int v3), (4, .int v4)] [] q := sx_lp (body := fun s => F3_rowEnd_25b  v2 v3 s.1 s.2) (P := fun s => PF3_rowEnd l Q 25 [(0, .ref 8), (2, .int v2), (3, .int v3), (4, .int s.1)] [] s.2) (T := fun t => Q (some (.int t.1)) t.2) st FU (v4, q) t h hk9
  exact h9
def F3_rowEnd  (v1 : Int32) (q : SQ) : Option (Int32 × SQ) :=
  (if sx_ix v1 400 = true then (F3_isLetter  (gI q 9 v1.toNatClampNeg) q).bind (fun z1 => sx_let z1.1 (fun x2 => (if sx_ix v1 400 = true then (F3_isDigit  (gI z1.2 9 v1.toNatClampNeg) z1.2).bind (fun z3 => sx_let z3.1 (fun x4 => sx_let (v1 + (1 : Int32)) (fun x5 => F3_rowEnd_25  x2 x4 x5 z3.2))) else none))) else none)
set_option maxHeartbeats 400000 in
theorem F3_rowEnd_ok (l : Launch)  {Q : Option Value → SQ → Prop} (v1 : Int32) (q : SQ) {res : Int32 × SQ} (h : F3_rowEnd  v1 q = some res) (hk9 : Q (some (.int res.1)) res.2) : PF3_rowEnd l Q 0 [(0, .ref 8), (1, .int v1)] [] q := by
  unfold F3_rowEnd at h
  refine sx_aload_n dX3_rowEnd_0 rfl rfl ?_
  refine sx_getR dX3_rowEnd_1 (hs := shX_8) (k9 := 1) (hf := rfl) cb_X3 ⟨by decide, rfl, gw_157⟩ ?_
  refine sx_iload_n dX3_rowEnd_4 rfl rfl ?_
  obtain ⟨g9, h⟩ := sx_gd h
  refine sx_iald dX3_rowEnd_5 shX_9 (fun _ _ => rfl) (sx_ix_in g9) ?_
  obtain ⟨z1, hz1, h⟩ := sx_bd h
  refine sx_callS (As := [.int (gI q 9 v1.toNatClampNeg)]) (rest := []) KSX (F3_isLetter_ck l  (gI q 9 v1.toNatClampNeg) q hz1) mi_X3_isLetter gw_360 rfl gw_361 ⟨Nat.le_of_ble_eq_true rfl, Nat.le_of_ble_eq_true rfl⟩ (Nat.le_of_ble_eq_true rfl) dX3_rowEnd_6 rfl ?_
  obtain ⟨x2, ex2, h⟩ := sx_lt h
  refine sx_nmI ex2 ?_
  refine sx_istore_n (ls2 := [(2, .int x2), (0, .ref 8), (1, .int v1)]) dX3_rowEnd_9 rfl (by decide) rfl ?_
  refine sx_aload_n dX3_rowEnd_10 rfl rfl ?_
  refine sx_getR dX3_rowEnd_11 (hs := shX_8) (k9 := 1) (hf := rfl) cb_X3 ⟨by decide, rfl, gw_157⟩ ?_
  refine sx_iload_n dX3_rowEnd_14 rfl rfl ?_
  obtain ⟨g9, h⟩ := sx_gd h
  refine sx_iald dX3_rowEnd_15 shX_9 (fun _ _ => rfl) (sx_ix_in g9) ?_
  obtain ⟨z3, hz3, h⟩ := sx_bd h
  refine sx_callS (As := [.int (gI z1.2 9 v1.toNatClampNeg)]) (rest := []) KSX (F3_isDigit_ck l  (gI z1.2 9 v1.toNatClampNeg) z1.2 hz3) mi_X3_isDigit gw_363 rfl gw_364 ⟨Nat.le_of_ble_eq_true rfl, Nat.le_of_ble_eq_true rfl⟩ (Nat.le_of_ble_eq_true rfl) dX3_rowEnd_16 rfl ?_
  obtain ⟨x4, ex4, h⟩ := sx_lt h
  refine sx_nmI ex4 ?_
  refine sx_istore_n (ls2 := [(3, .int x4), (2, .int x2), (0, .ref 8), (1, .int v1)]) dX3_rowEnd_19 rfl (by decide) rfl ?_
  refine sx_iload_n dX3_rowEnd_20 rfl rfl ?_
  refine sx_iconst (v := (1 : Int32)) dX3_rowEnd_21 (by decide) ?_
  refine sx_iadd dX3_rowEnd_22 ?_
  obtain ⟨x5, ex5, h⟩ := sx_lt h
  refine sx_nmI ex5 ?_
  refine sx_istore (ls2 := [(4, .int x5), (3, .int x4), (2, .int x2), (0, .ref 8), (1, .int v1)]) dX3_rowEnd_23 (by decide) rfl ?_
  refine sx_locs [3, 2, 1, 0] rfl ?_
  exact F3_rowEnd_25_ok l  x2 x4 x5 z3.2 h hk9
theorem F3_rowEnd_ck (l : Launch)  (v1 : Int32) (q : SQ) {r : Int32 × SQ} (h : F3_rowEnd  v1 q = some r) : CK shX vwCl KX tfX l yX3_rowEnd cX3_rowEnd 5 ((some .int)) 1 20 [.ref 8, .int v1] q (some (.int r.1)) r.2 :=
  CK.of mi_X3_rowEnd (Nat.le_of_ble_eq_true rfl) (F3_rowEnd_ok l  v1 q h ⟨rfl, rfl⟩)
theorem mi_X3_numberOf : sx_MI yX3_numberOf cX3_numberOf 5 ((some .int)) 2 := ⟨by decide, ⟨by decide, by decide, by decide +kernel⟩, gw_373, gw_62⟩
abbrev PF3_numberOf (l : Launch) (Q : Option Value → SQ → Prop) : Nat → List (Nat × Value) → List Value → SQ → Prop := XX shX vwCl KX tfX l RX3 cX3_numberOf 5 ((some .int)) { frames := 0, cells := 0, slots := 0, locals := 0 } Q
def F3_numberOf_25   (q : SQ) : Option (Int32 × SQ) :=
  some ((-9 : Int32), q)
set_option maxHeartbeats 400000 in
theorem F3_numberOf_25_ok (l : Launch)  {Q : Option Value → SQ → Prop}  (q : SQ) {res : Int32 × SQ} (h : F3_numberOf_25   q = some res) (hk9 : Q (some (.int res.1)) res.2) : PF3_numberOf l Q 25 [] [] q := by
  unfold F3_numberOf_25 at h
  refine sx_bipush (v := (-9 : Int32)) dX3_numberOf_25 (by decide) ?_
  obtain rfl := Option.some.inj h
  exact sx_iret dX3_numberOf_27 rfl hk9
def F3_numberOf_33b  (v2 : Int32) (v3 : Int32) (v4 : Int32) (q : SQ) : Option ((Int32 × Int32 × SQ) ⊕ (Int32 × SQ)) :=
  (if v2 ≤ v4 then (if v3 ≤ (100 : Int32) then some (.inr (v3, q)) else some (.inr ((-9 : Int32), q))) else (if sx_ix v4 400 = true then sx_let ((((10 : Int32) * v3) + (gI q 9 v4.toNatClampNeg)) - (48 : Int32)) (fun x1 => sx_let (v4 + (1 : Int32)) (fun x2 => some (.inl (x1, x2, q)))) else none))
set_option maxHeartbeats 400000 in
theorem F3_numberOf_33b_ok (l : Launch)  {Q : Option Value → SQ → Prop} (v2 : Int32) (v3 : Int32) (v4 : Int32) (q : SQ) {res : (Int32 × Int32 × SQ) ⊕ (Int32 × SQ)} (h : F3_numberOf_33b  v2 v3 v4 q = some res) (hk9 : (∀ a3, res = .inl a3 → PF3_numberOf l Q 33 [(0, .ref 8), (2, .int v2), (3, .int a3.1), (4, .int a3.2.1)] [] a3.2.2) ∧ (∀ b4, res = .inr b4 → Q (some (.int b4.1)) b4.2)) : PF3_numberOf l Q 33 [(0, .ref 8), (2, .int v2), (3, .int v3), (4, .int v4)] [] q := by
  unfold F3_numberOf_33b at h
  refine sx_iload dX3_numberOf_33 rfl ?_
  refine sx_iload_n dX3_numberOf_35 rfl rfl ?_
  refine sx_icmp_ge (tgt := 61) dX3_numberOf_36 (by decide) (fun c9 => ?_) (fun c9 => ?_)
  · replace h := sx_ip h c9
    refine sx_iload_n dX3_numberOf_61 rfl rfl ?_
    refine sx_bipush (v := (100 : Int32)) dX3_numberOf_62 (by decide) ?_
    refine sx_icmp_le (tgt := 72) dX3_numberOf_64 (by decide) (fun c9 => ?_) (fun c9 => ?_)
    · replace h := sx_ip h c9
      refine sx_iload_n dX3_numberOf_72 rfl rfl ?_
      have hk9 := hk9.2 _ (Option.some.inj h).symm
      exact sx_iret dX3_numberOf_73 rfl hk9
    · replace h := sx_in h c9
      refine sx_bipush (v := (-9 : Int32)) dX3_numberOf_67 (by decide) ?_
      refine sx_goto (tgt := 73) dX3_numberOf_69 (by decide) ?_
      have hk9 := hk9.2 _ (Option.some.inj h).symm
      exact sx_iret dX3_numberOf_73 rfl hk9
  · replace h := sx_in h c9
    refine sx_bipush (v := (10 : Int32)) dX3_numberOf_39 (by decide) ?_
    refine sx_iload_n dX3_numberOf_41 rfl rfl ?_
    refine sx_imul dX3_numberOf_42 ?_
    refine sx_aload_n dX3_numberOf_43 rfl rfl ?_
    refine sx_getR dX3_numberOf_44 (hs := shX_8) (k9 := 1) (hf := rfl) cb_X3 ⟨by decide, rfl, gw_157⟩ ?_
    refine sx_iload dX3_numberOf_47 rfl ?_
    obtain ⟨g9, h⟩ := sx_gd h
    refine sx_iald dX3_numberOf_49 shX_9 (fun _ _ => rfl) (sx_ix_in g9) ?_
    refine sx_iadd dX3_numberOf_50 ?_
    refine sx_bipush (v := (48 : Int32)) dX3_numberOf_51 (by decide) ?_
    refine sx_isub dX3_numberOf_53 ?_
    obtain ⟨x1, ex1, h⟩ := sx_lt h
    refine sx_nmI ex1 ?_
    refine sx_istore_n (ls2 := [(3, .int x1), (0, .ref 8), (2, .int v2), (4, .int v4)]) dX3_numberOf_54 rfl (by decide) rfl ?_
    obtain ⟨x2, ex2, h⟩ := sx_lt h
    refine sx_iinc (k9 := 3) (v := x2) (ls2 := [(4, .int x2), (3, .int x1), (0, .ref 8), (2, .int v2)]) dX3_numberOf_55 rfl (by rw [ex2, sx_ofI1]) (by decide) rfl ?_
    refine sx_goto (tgt := 33) dX3_numberOf_58 (by decide) ?_
    refine sx_locs [2, 3, 1, 0] rfl ?_
    exact hk9.1 (x1, x2, q) (Option.some.inj h).symm
def F3_numberOf_33  (v2 : Int32) (v3 : Int32) (v4 : Int32) (q : SQ) : Option (Int32 × SQ) := sx_loop (fun s5 => F3_numberOf_33b  v2 s5.1 s5.2.1 s5.2.2) FU (v3, v4, q)
set_option maxHeartbeats 400000 in
theorem F3_numberOf_33_ok (l : Launch)  {Q : Option Value → SQ → Prop} (v2 : Int32) (v3 : Int32) (v4 : Int32) (q : SQ) {t : Int32 × SQ} (h : F3_numberOf_33  v2 v3 v4 q = some t) (hk9 : Q (some (.int t.1)) t.2) : PF3_numberOf l Q 33 [(0, .ref 8), (2, .int v2), (3, .int v3), (4, .int v4)] [] q := by
  unfold F3_numberOf_33 at h
  have st : ∀ (s : Int32 × Int32 × SQ) (res : (Int32 × Int32 × SQ) ⊕ (Int32 × SQ)), F3_numberOf_33b  v2 s.1 s.2.1 s.2.2 = some res → (∀ s2, res = .inl s2 → PF3_numberOf l Q 33 [(0, .ref 8), (2, .int v2), (3, .int s2.1), (4, .int s2.2.1)] [] s2.2.2) → (∀ t2, res = .inr t2 → Q (some (.int t2.1)) t2.2) → PF3_numberOf l Q 33 [(0, .ref 8), (2, .int v2), (3, .int s.1), (4, .int s.2.1)] [] s.2.2 :=
    fun s res hb hi ho => F3_numberOf_33b_ok l  v2 s.1 s.2.1 s.2.2 hb ⟨hi, ho⟩
  have h9 : PF3_numberOf l Q 33 [(0, .ref 8), (2, .int v2), (3, .int v3), (4, .int v4)] [] q := sx_lp (body := fun s => F3_numberOf_33b  v2 s.1 s.2.1 s.2.2) (P := fun s => PF3_numberOf l Q 33 [(0, .ref 8), (2, .int v2), (3, .int s.1), (4, .int s.2.1)] [] s.2.2) (T := fun t => Q (some (.int t.1)) t.2) st FU (v3, v4, q) t h hk9
  exact h9
def F3_numberOf_28  (v1 : Int32) (v2 : Int32) (q : SQ) : Option (Int32 × SQ) :=
  F3_numberOf_33  v2 (0 : Int32) v1 q
set_option maxHeartbeats 400000 in
theorem F3_numberOf_28_ok (l : Launch)  {Q : Option Value → SQ → Prop} (v1 : Int32) (v2 : Int32) (q : SQ) {res : Int32 × SQ} (h : F3_numberOf_28  v1 v2 q = some res) (hk9 : Q (some (.int res.1)) res.2) : PF3_numberOf l Q 28 [(0, .ref 8), (1, .int v1), (2, .int v2)] [] q := by
  unfold F3_numberOf_28 at h
  refine sx_iconst (v := (0 : Int32)) dX3_numberOf_28 (by decide) ?_
  refine sx_istore_n (ls2 := [(3, .int (0 : Int32)), (0, .ref 8), (1, .int v1), (2, .int v2)]) dX3_numberOf_29 rfl (by decide) rfl ?_
  refine sx_iload_n dX3_numberOf_30 rfl rfl ?_
  refine sx_istore (ls2 := [(4, .int v1), (3, .int (0 : Int32)), (0, .ref 8), (1, .int v1), (2, .int v2)]) dX3_numberOf_31 (by decide) rfl ?_
  refine sx_locs [2, 4, 1, 0] rfl ?_
  exact F3_numberOf_33_ok l  v2 (0 : Int32) v1 q h hk9
def F3_numberOf  (v1 : Int32) (v2 : Int32) (q : SQ) : Option (Int32 × SQ) :=
  (if (3 : Int32) < v2 - v1 then F3_numberOf_25   q else (if sx_ix v1 400 = true then (if gI q 9 v1.toNatClampNeg = (48 : Int32) then (if v2 - v1 ≤ (1 : Int32) then F3_numberOf_28  v1 v2 q else F3_numberOf_25   q) else F3_numberOf_28  v1 v2 q) else none))
set_option maxHeartbeats 400000 in
theorem F3_numberOf_ok (l : Launch)  {Q : Option Value → SQ → Prop} (v1 : Int32) (v2 : Int32) (q : SQ) {res : Int32 × SQ} (h : F3_numberOf  v1 v2 q = some res) (hk9 : Q (some (.int res.1)) res.2) : PF3_numberOf l Q 0 [(0, .ref 8), (1, .int v1), (2, .int v2)] [] q := by
  unfold F3_numberOf at h
  refine sx_iload_n dX3_numberOf_0 rfl rfl ?_
  refine sx_iload_n dX3_numberOf_1 rfl rfl ?_
  refine sx_isub dX3_numberOf_2 ?_
  refine sx_iconst (v := (3 : Int32)) dX3_numberOf_3 (by decide) ?_
  refine sx_icmp_gt (tgt := 25) dX3_numberOf_4 (by decide) (fun c9 => ?_) (fun c9 => ?_)
  · replace h := sx_ip h c9
    refine sx_locs [] rfl ?_
    exact F3_numberOf_25_ok l   q h hk9
  · replace h := sx_in h c9
    refine sx_aload_n dX3_numberOf_7 rfl rfl ?_
    refine sx_getR dX3_numberOf_8 (hs := shX_8) (k9 := 1) (hf := rfl) cb_X3 ⟨by decide, rfl, gw_157⟩ ?_
    refine sx_iload_n dX3_numberOf_11 rfl rfl ?_
    obtain ⟨g9, h⟩ := sx_gd h
    refine sx_iald dX3_numberOf_12 shX_9 (fun _ _ => rfl) (sx_ix_in g9) ?_
    refine sx_bipush (v := (48 : Int32)) dX3_numberOf_13 (by decide) ?_
    refine sx_icmp_ne (tgt := 28) dX3_numberOf_15 (by decide) (fun c9 => ?_) (fun c9 => ?_)
    · replace h := sx_in h c9
      exact F3_numberOf_28_ok l  v1 v2 q h hk9
    · replace h := sx_ip h c9
      refine sx_iload_n dX3_numberOf_18 rfl rfl ?_
      refine sx_iload_n dX3_numberOf_19 rfl rfl ?_
      refine sx_isub dX3_numberOf_20 ?_
      refine sx_iconst (v := (1 : Int32)) dX3_numberOf_21 (by decide) ?_
      refine sx_icmp_le (tgt := 28) dX3_numberOf_22 (by decide) (fun c9 => ?_) (fun c9 => ?_)
      · replace h := sx_ip h c9
        exact F3_numberOf_28_ok l  v1 v2 q h hk9
      · replace h := sx_in h c9
        refine sx_locs [] rfl ?_
        exact F3_numberOf_25_ok l   q h hk9
theorem F3_numberOf_ck (l : Launch)  (v1 : Int32) (v2 : Int32) (q : SQ) {r : Int32 × SQ} (h : F3_numberOf  v1 v2 q = some r) : CK shX vwCl KX tfX l yX3_numberOf cX3_numberOf 5 ((some .int)) 0 0 [.ref 8, .int v1, .int v2] q (some (.int r.1)) r.2 :=
  CK.of mi_X3_numberOf (Nat.le_of_ble_eq_true rfl) (F3_numberOf_ok l  v1 v2 q h ⟨rfl, rfl⟩)
theorem mi_X3_spells : sx_MI yX3_spells cX3_spells 5 ((some .boolean)) 3 := ⟨by decide, ⟨by decide, by decide, by decide +kernel⟩, gw_378, gw_62⟩
abbrev PF3_spells (l : Launch) (Q : Option Value → SQ → Prop) : Nat → List (Nat × Value) → List Value → SQ → Prop := XX shX vwCl KX tfX l RX3 cX3_spells 5 ((some .boolean)) { frames := 4, cells := 0, slots := 0, locals := 85 } Q
def F3_spells_15b (w3 : Nat) (v1 : Int32) (v4 : Int32) (q : SQ) : Option ((Int32 × SQ) ⊕ (Int32 × SQ)) :=
  (if nI (sx_stl w3) ≤ v4 then some (.inr ((1 : Int32), q)) else (if sx_ix (v1 + v4) 400 = true then (if sx_ix v4 (sx_stl w3) = true then (if gI q 9 (v1 + v4).toNatClampNeg = sx_sch w3 v4.toNatClampNeg then sx_let (v4 + (1 : Int32)) (fun x1 => some (.inl (x1, q))) else some (.inr ((0 : Int32), q))) else none) else none))
set_option maxHeartbeats 400000 in
theorem F3_spells_15b_ok (l : Launch) (w3 : Nat) (hw3 : w3 < 6) {Q : Option Value → SQ → Prop} (v1 : Int32) (v4 : Int32) (q : SQ) {res : (Int32 × SQ) ⊕ (Int32 × SQ)} (h : F3_spells_15b w3 v1 v4 q = some res) (hk9 : (∀ a2, res = .inl a2 → PF3_spells l Q 15 [(0, .ref 8), (1, .int v1), (3, .ref (1000 + w3)), (4, .int a2.1)] [] a2.2) ∧ (∀ b3, res = .inr b3 → Q (some (.int b3.1)) b3.2)) : PF3_spells l Q 15 [(0, .ref 8), (1, .int v1), (3, .ref (1000 + w3)), (4, .int v4)] [] q := by
  unfold F3_spells_15b at h
  refine sx_iload dX3_spells_15 rfl ?_
  refine sx_aload_n dX3_spells_17 rfl rfl ?_
  refine sx_strlen dX3_spells_18 hw3 gw_379 ⟨Nat.le_of_ble_eq_true rfl, Nat.le_of_ble_eq_true rfl⟩ (Nat.le_of_ble_eq_true rfl) ?_
  refine sx_icmp_ge (tgt := 50) dX3_spells_21 (by decide) (fun c9 => ?_) (fun c9 => ?_)
  · replace h := sx_ip h c9
    refine sx_iconst (v := (1 : Int32)) dX3_spells_50 (by decide) ?_
    have hk9 := hk9.2 _ (Option.some.inj h).symm
    exact sx_zret dX3_spells_51 rfl (by decide) hk9
  · replace h := sx_in h c9
    refine sx_aload_n dX3_spells_24 rfl rfl ?_
    refine sx_getR dX3_spells_25 (hs := shX_8) (k9 := 1) (hf := rfl) cb_X3 ⟨by decide, rfl, gw_157⟩ ?_
    refine sx_iload_n dX3_spells_28 rfl rfl ?_
    refine sx_iload dX3_spells_29 rfl ?_
    refine sx_iadd dX3_spells_31 ?_
    obtain ⟨g9, h⟩ := sx_gd h
    refine sx_iald dX3_spells_32 shX_9 (fun _ _ => rfl) (sx_ix_in g9) ?_
    refine sx_aload_n dX3_spells_33 rfl rfl ?_
    refine sx_iload dX3_spells_34 rfl ?_
    obtain ⟨g9, h⟩ := sx_gd h
    refine sx_strchar dX3_spells_36 hw3 gw_389 (sx_ix_in g9) ⟨Nat.le_of_ble_eq_true rfl, Nat.le_of_ble_eq_true rfl⟩ (Nat.le_of_ble_eq_true rfl) ?_
    refine sx_icmp_eq (tgt := 44) dX3_spells_39 (by decide) (fun c9 => ?_) (fun c9 => ?_)
    · replace h := sx_ip h c9
      obtain ⟨x1, ex1, h⟩ := sx_lt h
      refine sx_iinc (k9 := 3) (v := x1) (ls2 := [(4, .int x1), (0, .ref 8), (1, .int v1), (3, .ref (1000 + w3))]) dX3_spells_44 rfl (by rw [ex1, sx_ofI1]) (by decide) rfl ?_
      refine sx_goto (tgt := 15) dX3_spells_47 (by decide) ?_
      refine sx_locs [1, 2, 3, 0] rfl ?_
      exact hk9.1 (x1, q) (Option.some.inj h).symm
    · replace h := sx_in h c9
      refine sx_iconst (v := (0 : Int32)) dX3_spells_42 (by decide) ?_
      have hk9 := hk9.2 _ (Option.some.inj h).symm
      exact sx_zret dX3_spells_43 rfl (by decide) hk9
def F3_spells_15 (w3 : Nat) (v1 : Int32) (v4 : Int32) (q : SQ) : Option (Int32 × SQ) := sx_loop (fun s4 => F3_spells_15b w3 v1 s4.1 s4.2) FU (v4, q)
set_option maxHeartbeats 400000 in
theorem F3_spells_15_ok (l : Launch) (w3 : Nat) (hw3 : w3 < 6) {Q : Option Value → SQ → Prop} (v1 : Int32) (v4 : Int32) (q : SQ) {t : Int32 × SQ} (h : F3_spells_15 w3 v1 v4 q = some t) (hk9 : Q (some (.int t.1)) t.2) : PF3_spells l Q 15 [(0, .ref 8), (1, .int v1), (3, .ref (1000 + w3)), (4, .int v4)] [] q := by
  unfold F3_spells_15 at h
  have st : ∀ (s : Int32 × SQ) (res : (Int32 × SQ) ⊕ (Int32 × SQ)), F3_spells_15b w3 v1 s.1 s.2 = some res → (∀ s2, res = .inl s2 → PF3_spells l Q 15 [(0, .ref 8), (1, .int v1), (3, .ref (1000 + w3)), (4, .int s2.1)] [] s2.2) → (∀ t2, res = .inr t2 → Q (some (.int t2.1)) t2.2) → PF3_spells l Q 15 [(0, .ref 8), (1, .int v1), (3, .ref (1000 + w3)), (4, .int s.1)] [] s.2 :=
    fun s res hb hi ho => F3_spells_15b_ok l w3 hw3 v1 s.1 s.2 hb ⟨hi, ho⟩
  have h9 : PF3_spells l Q 15 [(0, .ref 8), (1, .int v1), (3, .ref (1000 + w3)), (4, .int v4)] [] q := sx_lp (body := fun s => F3_spells_15b w3 v1 s.1 s.2) (P := fun s => PF3_spells l Q 15 [(0, .ref 8), (1, .int v1), (3, .ref (1000 + w3)), (4, .int s.1)] [] s.2) (T := fun t => Q (some (.int t.1)) t.2) st FU (v4, q) t h hk9
  exact h9
def F3_spells (w3 : Nat) (v1 : Int32) (v2 : Int32) (q : SQ) : Option (Int32 × SQ) :=
  (if v2 - v1 = nI (sx_stl w3) then F3_spells_15 w3 v1 (0 : Int32) q else some ((0 : Int32), q))
set_option maxHeartbeats 400000 in
theorem F3_spells_ok (l : Launch) (w3 : Nat) (hw3 : w3 < 6) {Q : Option Value → SQ → Prop} (v1 : Int32) (v2 : Int32) (q : SQ) {res : Int32 × SQ} (h : F3_spells w3 v1 v2 q = some res) (hk9 : Q (some (.int res.1)) res.2) : PF3_spells l Q 0 [(0, .ref 8), (1, .int v1), (2, .int v2), (3, .ref (1000 + w3))] [] q := by
  unfold F3_spells at h
  refine sx_iload_n dX3_spells_0 rfl rfl ?_
  refine sx_iload_n dX3_spells_1 rfl rfl ?_
  refine sx_isub dX3_spells_2 ?_
  refine sx_aload_n dX3_spells_3 rfl rfl ?_
  refine sx_strlen dX3_spells_4 hw3 gw_379 ⟨Nat.le_of_ble_eq_true rfl, Nat.le_of_ble_eq_true rfl⟩ (Nat.le_of_ble_eq_true rfl) ?_
  refine sx_icmp_eq (tgt := 12) dX3_spells_7 (by decide) (fun c9 => ?_) (fun c9 => ?_)
  · replace h := sx_ip h c9
    refine sx_iconst (v := (0 : Int32)) dX3_spells_12 (by decide) ?_
    refine sx_istore (ls2 := [(4, .int (0 : Int32)), (0, .ref 8), (1, .int v1), (2, .int v2), (3, .ref (1000 + w3))]) dX3_spells_13 (by decide) rfl ?_
    refine sx_locs [1, 2, 4, 0] rfl ?_
    exact F3_spells_15_ok l w3 hw3 v1 (0 : Int32) q h hk9
  · replace h := sx_in h c9
    refine sx_iconst (v := (0 : Int32)) dX3_spells_10 (by decide) ?_
    obtain rfl := Option.some.inj h
    exact sx_zret dX3_spells_11 rfl (by decide) hk9
theorem F3_spells_ck (l : Launch) (w3 : Nat) (hw3 : w3 < 6) (v1 : Int32) (v2 : Int32) (q : SQ) {r : Int32 × SQ} (h : F3_spells w3 v1 v2 q = some r) : CK shX vwCl KX tfX l yX3_spells cX3_spells 5 ((some .boolean)) 4 85 [.ref 8, .int v1, .int v2, .ref (1000 + w3)] q (some (.int r.1)) r.2 :=
  CK.of mi_X3_spells (Nat.le_of_ble_eq_true rfl) (F3_spells_ok l w3 hw3 v1 v2 q h ⟨rfl, rfl⟩)
theorem mi_X3_tokenOf : sx_MI yX3_tokenOf cX3_tokenOf 3 ((some .int)) 2 := ⟨by decide, ⟨by decide, by decide, by decide +kernel⟩, gw_369, gw_62⟩
abbrev PF3_tokenOf (l : Launch) (Q : Option Value → SQ → Prop) : Nat → List (Nat × Value) → List Value → SQ → Prop := XX shX vwCl KX tfX l RX3 cX3_tokenOf 3 ((some .int)) { frames := 5, cells := 0, slots := 0, locals := 109 } Q
def F3_tokenOf  (v1 : Int32) (v2 : Int32) (q : SQ) : Option (Int32 × SQ) :=
  (if sx_ix v1 400 = true then (if gI q 9 v1.toNatClampNeg = (59 : Int32) then some ((-7 : Int32), q) else (if sx_ix v1 400 = true then (F3_isDigit  (gI q 9 v1.toNatClampNeg) q).bind (fun z1 => (if z1.1 = 0 then (F3_spells 0 v1 v2 z1.2).bind (fun z2 => (if z2.1 = 0 then (F3_spells 1 v1 v2 z2.2).bind (fun z3 => (if z3.1 = 0 then (F3_spells 2 v1 v2 z3.2).bind (fun z4 => (if z4.1 = 0 then (F3_spells 3 v1 v2 z4.2).bind (fun z5 => (if z5.1 = 0 then (F3_spells 4 v1 v2 z5.2).bind (fun z6 => (if z6.1 = 0 then (F3_spells 5 v1 v2 z6.2).bind (fun z7 => (if z7.1 = 0 then some ((-9 : Int32), z7.2) else some ((-6 : Int32), z7.2))) else some ((-5 : Int32), z6.2))) else some ((-4 : Int32), z5.2))) else some ((-3 : Int32), z4.2))) else some ((-2 : Int32), z3.2))) else some ((-1 : Int32), z2.2))) else (F3_numberOf  v1 v2 z1.2).bind (fun z8 => some (z8.1, z8.2)))) else none)) else none)
set_option maxHeartbeats 400000 in
theorem F3_tokenOf_ok (l : Launch)  {Q : Option Value → SQ → Prop} (v1 : Int32) (v2 : Int32) (q : SQ) {res : Int32 × SQ} (h : F3_tokenOf  v1 v2 q = some res) (hk9 : Q (some (.int res.1)) res.2) : PF3_tokenOf l Q 0 [(0, .ref 8), (1, .int v1), (2, .int v2)] [] q := by
  unfold F3_tokenOf at h
  refine sx_aload_n dX3_tokenOf_0 rfl rfl ?_
  refine sx_getR dX3_tokenOf_1 (hs := shX_8) (k9 := 1) (hf := rfl) cb_X3 ⟨by decide, rfl, gw_157⟩ ?_
  refine sx_iload_n dX3_tokenOf_4 rfl rfl ?_
  obtain ⟨g9, h⟩ := sx_gd h
  refine sx_iald dX3_tokenOf_5 shX_9 (fun _ _ => rfl) (sx_ix_in g9) ?_
  refine sx_bipush (v := (59 : Int32)) dX3_tokenOf_6 (by decide) ?_
  refine sx_icmp_ne (tgt := 14) dX3_tokenOf_8 (by decide) (fun c9 => ?_) (fun c9 => ?_)
  · replace h := sx_in h c9
    refine sx_aload_n dX3_tokenOf_14 rfl rfl ?_
    refine sx_getR dX3_tokenOf_15 (hs := shX_8) (k9 := 1) (hf := rfl) cb_X3 ⟨by decide, rfl, gw_157⟩ ?_
    refine sx_iload_n dX3_tokenOf_18 rfl rfl ?_
    obtain ⟨g9, h⟩ := sx_gd h
    refine sx_iald dX3_tokenOf_19 shX_9 (fun _ _ => rfl) (sx_ix_in g9) ?_
    obtain ⟨z1, hz1, h⟩ := sx_bd h
    refine sx_callS (As := [.int (gI q 9 v1.toNatClampNeg)]) (rest := []) KSX (F3_isDigit_ck l  (gI q 9 v1.toNatClampNeg) q hz1) mi_X3_isDigit gw_363 rfl gw_364 ⟨Nat.le_of_ble_eq_true rfl, Nat.le_of_ble_eq_true rfl⟩ (Nat.le_of_ble_eq_true rfl) dX3_tokenOf_20 rfl ?_
    refine sx_if_eq (tgt := 33) dX3_tokenOf_23 (by decide) (fun c9 => ?_) (fun c9 => ?_)
    · replace h := sx_ip h c9
      refine sx_aload_n dX3_tokenOf_33 rfl rfl ?_
      refine sx_iload_n dX3_tokenOf_34 rfl rfl ?_
      refine sx_iload_n dX3_tokenOf_35 rfl rfl ?_
      refine sx_ldcS 0 rfl dX3_tokenOf_36 (by decide) rfl ?_
      obtain ⟨z2, hz2, h⟩ := sx_bd h
      refine sx_callV (o := 8) (As := [.int v1, .int v2, .ref (1000 + 0)]) (rest := []) KSX (F3_spells_ck l 0 (by decide) v1 v2 z1.2 hz2) mi_X3_spells gw_375 rfl ⟨gw_377, gw_4⟩ shX_8 rfl rfl ⟨Nat.le_of_ble_eq_true rfl, Nat.le_of_ble_eq_true rfl⟩ (Nat.le_of_ble_eq_true rfl) dX3_tokenOf_38 rfl ?_
      refine sx_if_eq (tgt := 46) dX3_tokenOf_41 (by decide) (fun c9 => ?_) (fun c9 => ?_)
      · replace h := sx_ip h c9
        refine sx_aload_n dX3_tokenOf_46 rfl rfl ?_
        refine sx_iload_n dX3_tokenOf_47 rfl rfl ?_
        refine sx_iload_n dX3_tokenOf_48 rfl rfl ?_
        refine sx_ldcS 1 rfl dX3_tokenOf_49 (by decide) rfl ?_
        obtain ⟨z3, hz3, h⟩ := sx_bd h
        refine sx_callV (o := 8) (As := [.int v1, .int v2, .ref (1000 + 1)]) (rest := []) KSX (F3_spells_ck l 1 (by decide) v1 v2 z2.2 hz3) mi_X3_spells gw_375 rfl ⟨gw_377, gw_4⟩ shX_8 rfl rfl ⟨Nat.le_of_ble_eq_true rfl, Nat.le_of_ble_eq_true rfl⟩ (Nat.le_of_ble_eq_true rfl) dX3_tokenOf_51 rfl ?_
        refine sx_if_eq (tgt := 60) dX3_tokenOf_54 (by decide) (fun c9 => ?_) (fun c9 => ?_)
        · replace h := sx_ip h c9
          refine sx_aload_n dX3_tokenOf_60 rfl rfl ?_
          refine sx_iload_n dX3_tokenOf_61 rfl rfl ?_
          refine sx_iload_n dX3_tokenOf_62 rfl rfl ?_
          refine sx_ldcS 2 rfl dX3_tokenOf_63 (by decide) rfl ?_
          obtain ⟨z4, hz4, h⟩ := sx_bd h
          refine sx_callV (o := 8) (As := [.int v1, .int v2, .ref (1000 + 2)]) (rest := []) KSX (F3_spells_ck l 2 (by decide) v1 v2 z3.2 hz4) mi_X3_spells gw_375 rfl ⟨gw_377, gw_4⟩ shX_8 rfl rfl ⟨Nat.le_of_ble_eq_true rfl, Nat.le_of_ble_eq_true rfl⟩ (Nat.le_of_ble_eq_true rfl) dX3_tokenOf_65 rfl ?_
          refine sx_if_eq (tgt := 74) dX3_tokenOf_68 (by decide) (fun c9 => ?_) (fun c9 => ?_)
          · replace h := sx_ip h c9
            refine sx_aload_n dX3_tokenOf_74 rfl rfl ?_
            refine sx_iload_n dX3_tokenOf_75 rfl rfl ?_
            refine sx_iload_n dX3_tokenOf_76 rfl rfl ?_
            refine sx_ldcS 3 rfl dX3_tokenOf_77 (by decide) rfl ?_
            obtain ⟨z5, hz5, h⟩ := sx_bd h
            refine sx_callV (o := 8) (As := [.int v1, .int v2, .ref (1000 + 3)]) (rest := []) KSX (F3_spells_ck l 3 (by decide) v1 v2 z4.2 hz5) mi_X3_spells gw_375 rfl ⟨gw_377, gw_4⟩ shX_8 rfl rfl ⟨Nat.le_of_ble_eq_true rfl, Nat.le_of_ble_eq_true rfl⟩ (Nat.le_of_ble_eq_true rfl) dX3_tokenOf_79 rfl ?_
            refine sx_if_eq (tgt := 88) dX3_tokenOf_82 (by decide) (fun c9 => ?_) (fun c9 => ?_)
            · replace h := sx_ip h c9
              refine sx_aload_n dX3_tokenOf_88 rfl rfl ?_
              refine sx_iload_n dX3_tokenOf_89 rfl rfl ?_
              refine sx_iload_n dX3_tokenOf_90 rfl rfl ?_
              refine sx_ldcS 4 rfl dX3_tokenOf_91 (by decide) rfl ?_
              obtain ⟨z6, hz6, h⟩ := sx_bd h
              refine sx_callV (o := 8) (As := [.int v1, .int v2, .ref (1000 + 4)]) (rest := []) KSX (F3_spells_ck l 4 (by decide) v1 v2 z5.2 hz6) mi_X3_spells gw_375 rfl ⟨gw_377, gw_4⟩ shX_8 rfl rfl ⟨Nat.le_of_ble_eq_true rfl, Nat.le_of_ble_eq_true rfl⟩ (Nat.le_of_ble_eq_true rfl) dX3_tokenOf_93 rfl ?_
              refine sx_if_eq (tgt := 102) dX3_tokenOf_96 (by decide) (fun c9 => ?_) (fun c9 => ?_)
              · replace h := sx_ip h c9
                refine sx_aload_n dX3_tokenOf_102 rfl rfl ?_
                refine sx_iload_n dX3_tokenOf_103 rfl rfl ?_
                refine sx_iload_n dX3_tokenOf_104 rfl rfl ?_
                refine sx_ldcS 5 rfl dX3_tokenOf_105 (by decide) rfl ?_
                obtain ⟨z7, hz7, h⟩ := sx_bd h
                refine sx_callV (o := 8) (As := [.int v1, .int v2, .ref (1000 + 5)]) (rest := []) KSX (F3_spells_ck l 5 (by decide) v1 v2 z6.2 hz7) mi_X3_spells gw_375 rfl ⟨gw_377, gw_4⟩ shX_8 rfl rfl ⟨Nat.le_of_ble_eq_true rfl, Nat.le_of_ble_eq_true rfl⟩ (Nat.le_of_ble_eq_true rfl) dX3_tokenOf_107 rfl ?_
                refine sx_if_eq (tgt := 116) dX3_tokenOf_110 (by decide) (fun c9 => ?_) (fun c9 => ?_)
                · replace h := sx_ip h c9
                  refine sx_bipush (v := (-9 : Int32)) dX3_tokenOf_116 (by decide) ?_
                  obtain rfl := Option.some.inj h
                  exact sx_iret dX3_tokenOf_118 rfl hk9
                · replace h := sx_in h c9
                  refine sx_bipush (v := (-6 : Int32)) dX3_tokenOf_113 (by decide) ?_
                  obtain rfl := Option.some.inj h
                  exact sx_iret dX3_tokenOf_115 rfl hk9
              · replace h := sx_in h c9
                refine sx_bipush (v := (-5 : Int32)) dX3_tokenOf_99 (by decide) ?_
                obtain rfl := Option.some.inj h
                exact sx_iret dX3_tokenOf_101 rfl hk9
            · replace h := sx_in h c9
              refine sx_bipush (v := (-4 : Int32)) dX3_tokenOf_85 (by decide) ?_
              obtain rfl := Option.some.inj h
              exact sx_iret dX3_tokenOf_87 rfl hk9
          · replace h := sx_in h c9
            refine sx_bipush (v := (-3 : Int32)) dX3_tokenOf_71 (by decide) ?_
            obtain rfl := Option.some.inj h
            exact sx_iret dX3_tokenOf_73 rfl hk9
        · replace h := sx_in h c9
          refine sx_bipush (v := (-2 : Int32)) dX3_tokenOf_57 (by decide) ?_
          obtain rfl := Option.some.inj h
          exact sx_iret dX3_tokenOf_59 rfl hk9
      · replace h := sx_in h c9
        refine sx_iconst (v := (-1 : Int32)) dX3_tokenOf_44 (by decide) ?_
        obtain rfl := Option.some.inj h
        exact sx_iret dX3_tokenOf_45 rfl hk9
    · replace h := sx_in h c9
      refine sx_aload_n dX3_tokenOf_26 rfl rfl ?_
      refine sx_iload_n dX3_tokenOf_27 rfl rfl ?_
      refine sx_iload_n dX3_tokenOf_28 rfl rfl ?_
      obtain ⟨z8, hz8, h⟩ := sx_bd h
      refine sx_callV (o := 8) (As := [.int v1, .int v2]) (rest := []) KSX (F3_numberOf_ck l  v1 v2 z1.2 hz8) mi_X3_numberOf gw_370 rfl ⟨gw_372, gw_3⟩ shX_8 rfl rfl ⟨Nat.le_of_ble_eq_true rfl, Nat.le_of_ble_eq_true rfl⟩ (Nat.le_of_ble_eq_true rfl) dX3_tokenOf_29 rfl ?_
      obtain rfl := Option.some.inj h
      exact sx_iret dX3_tokenOf_32 rfl hk9
  · replace h := sx_ip h c9
    refine sx_bipush (v := (-7 : Int32)) dX3_tokenOf_11 (by decide) ?_
    obtain rfl := Option.some.inj h
    exact sx_iret dX3_tokenOf_13 rfl hk9
theorem F3_tokenOf_ck (l : Launch)  (v1 : Int32) (v2 : Int32) (q : SQ) {r : Int32 × SQ} (h : F3_tokenOf  v1 v2 q = some r) : CK shX vwCl KX tfX l yX3_tokenOf cX3_tokenOf 3 ((some .int)) 5 109 [.ref 8, .int v1, .int v2] q (some (.int r.1)) r.2 :=
  CK.of mi_X3_tokenOf (Nat.le_of_ble_eq_true rfl) (F3_tokenOf_ok l  v1 v2 q h ⟨rfl, rfl⟩)
theorem mi_X3_cut : sx_MI yX3_cut cX3_cut 4 (none) 0 := ⟨by decide, ⟨by decide, by decide, by decide +kernel⟩, gw_355, gw_62⟩
abbrev PF3_cut (l : Launch) (Q : Option Value → SQ → Prop) : Nat → List (Nat × Value) → List Value → SQ → Prop := XX shX vwCl KX tfX l RX3 cX3_cut 4 (none) { frames := 6, cells := 0, slots := 0, locals := 131 } Q
def F3_cut_58  (v1 : Int32) (v2 : Int32) (v3 : Int32) (q : SQ) : Option ((Int32 × Int32 × Int32 × SQ) ⊕ (Unit × SQ)) :=
  sx_let (v3 + (1 : Int32)) (fun x3 => some (.inl (v1, v2, x3, q)))
set_option maxHeartbeats 400000 in
theorem F3_cut_58_ok (l : Launch)  {Q : Option Value → SQ → Prop} (v1 : Int32) (v2 : Int32) (v3 : Int32) (q : SQ) {res : (Int32 × Int32 × Int32 × SQ) ⊕ (Unit × SQ)} (h : F3_cut_58  v1 v2 v3 q = some res) (hk9 : (∀ a4, res = .inl a4 → PF3_cut l Q 6 [(0, .ref 8), (1, .int a4.1), (2, .int a4.2.1), (3, .int a4.2.2.1)] [] a4.2.2.2) ∧ (∀ b5, res = .inr b5 → Q none b5.2)) : PF3_cut l Q 58 [(0, .ref 8), (1, .int v1), (2, .int v2), (3, .int v3)] [] q := by
  unfold F3_cut_58 at h
  obtain ⟨x3, ex3, h⟩ := sx_lt h
  refine sx_iinc (k9 := 3) (v := x3) (ls2 := [(3, .int x3), (0, .ref 8), (1, .int v1), (2, .int v2)]) dX3_cut_58 rfl (by rw [ex3, sx_ofI1]) (by decide) rfl ?_
  refine sx_goto (tgt := 6) dX3_cut_61 (by decide) ?_
  refine sx_locs [1, 2, 3, 0] rfl ?_
  exact hk9.1 (v1, v2, x3, q) (Option.some.inj h).symm
def F3_cut_6b  (v1 : Int32) (v2 : Int32) (v3 : Int32) (q : SQ) : Option ((Int32 × Int32 × Int32 × SQ) ⊕ (Unit × SQ)) :=
  (if gI q 8 0 ≤ v3 then (if sx_ix v1 401 = true then sx_let (sI q 17 v1.toNatClampNeg (-8 : Int32)) (fun q1 => (if sx_ix v1 401 = true then sx_let (sI q1 18 v1.toNatClampNeg (gI q1 8 0)) (fun q2 => some (.inr ((), q2))) else none)) else none) else (if v3 < v2 then F3_cut_58  v1 v2 v3 q else (if sx_ix v3 400 = true then (if gI q 9 v3.toNatClampNeg = (32 : Int32) then F3_cut_58  v1 v2 v3 q else (F3_rowEnd  v3 q).bind (fun z6 => sx_let z6.1 (fun x7 => (F3_tokenOf  v3 x7 z6.2).bind (fun z8 => (if sx_ix v1 401 = true then sx_let (sI z8.2 17 v1.toNatClampNeg z8.1) (fun q9 => (if sx_ix v1 401 = true then sx_let (sI q9 18 v1.toNatClampNeg v3) (fun q10 => sx_let (v1 + (1 : Int32)) (fun x11 => F3_cut_58  x11 x7 v3 q10)) else none)) else none))))) else none)))
set_option maxHeartbeats 400000 in
theorem F3_cut_6b_ok (l : Launch)  {Q : Option Value → SQ → Prop} (v1 : Int32) (v2 : Int32) (v3 : Int32) (q : SQ) {res : (Int32 × Int32 × Int32 × SQ) ⊕ (Unit × SQ)} (h : F3_cut_6b  v1 v2 v3 q = some res) (hk9 : (∀ a12, res = .inl a12 → PF3_cut l Q 6 [(0, .ref 8), (1, .int a12.1), (2, .int a12.2.1), (3, .int a12.2.2.1)] [] a12.2.2.2) ∧ (∀ b13, res = .inr b13 → Q none b13.2)) : PF3_cut l Q 6 [(0, .ref 8), (1, .int v1), (2, .int v2), (3, .int v3)] [] q := by
  unfold F3_cut_6b at h
  refine sx_iload_n dX3_cut_6 rfl rfl ?_
  refine sx_aload_n dX3_cut_7 rfl rfl ?_
  refine sx_getI dX3_cut_8 (hs := shX_8) (k9 := 0) (hf := rfl) cb_X3 ⟨by decide, rfl, gw_155⟩ ?_
  refine sx_icmp_ge (tgt := 64) dX3_cut_11 (by decide) (fun c9 => ?_) (fun c9 => ?_)
  · replace h := sx_ip h c9
    refine sx_aload_n dX3_cut_64 rfl rfl ?_
    refine sx_getR dX3_cut_65 (hs := shX_8) (k9 := 3) (hf := rfl) cb_X3 ⟨by decide, rfl, gw_160⟩ ?_
    refine sx_iload_n dX3_cut_68 rfl rfl ?_
    refine sx_bipush (v := (-8 : Int32)) dX3_cut_69 (by decide) ?_
    obtain ⟨g9, h⟩ := sx_gd h
    obtain ⟨q1, eq1, h⟩ := sx_lt h
    refine sx_iast dX3_cut_71 shX_17 (fun _ _ => rfl) (sx_ix_in g9) ?_
    refine sx_nmQ eq1 ?_
    refine sx_aload_n dX3_cut_72 rfl rfl ?_
    refine sx_getR dX3_cut_73 (hs := shX_8) (k9 := 4) (hf := rfl) cb_X3 ⟨by decide, rfl, gw_161⟩ ?_
    refine sx_iload_n dX3_cut_76 rfl rfl ?_
    refine sx_aload_n dX3_cut_77 rfl rfl ?_
    refine sx_getI dX3_cut_78 (hs := shX_8) (k9 := 0) (hf := rfl) cb_X3 ⟨by decide, rfl, gw_155⟩ ?_
    obtain ⟨g9, h⟩ := sx_gd h
    obtain ⟨q2, eq2, h⟩ := sx_lt h
    refine sx_iast dX3_cut_81 shX_18 (fun _ _ => rfl) (sx_ix_in g9) ?_
    refine sx_nmQ eq2 ?_
    have hk9 := hk9.2 _ (Option.some.inj h).symm
    exact sx_vret dX3_cut_82 rfl hk9
  · replace h := sx_in h c9
    refine sx_iload_n dX3_cut_14 rfl rfl ?_
    refine sx_iload_n dX3_cut_15 rfl rfl ?_
    refine sx_icmp_lt (tgt := 58) dX3_cut_16 (by decide) (fun c9 => ?_) (fun c9 => ?_)
    · replace h := sx_ip h c9
      exact F3_cut_58_ok l  v1 v2 v3 q h hk9
    · replace h := sx_in h c9
      refine sx_aload_n dX3_cut_19 rfl rfl ?_
      refine sx_getR dX3_cut_20 (hs := shX_8) (k9 := 1) (hf := rfl) cb_X3 ⟨by decide, rfl, gw_157⟩ ?_
      refine sx_iload_n dX3_cut_23 rfl rfl ?_
      obtain ⟨g9, h⟩ := sx_gd h
      refine sx_iald dX3_cut_24 shX_9 (fun _ _ => rfl) (sx_ix_in g9) ?_
      refine sx_bipush (v := (32 : Int32)) dX3_cut_25 (by decide) ?_
      refine sx_icmp_eq (tgt := 58) dX3_cut_27 (by decide) (fun c9 => ?_) (fun c9 => ?_)
      · replace h := sx_ip h c9
        exact F3_cut_58_ok l  v1 v2 v3 q h hk9
      · replace h := sx_in h c9
        refine sx_aload_n dX3_cut_30 rfl rfl ?_
        refine sx_iload_n dX3_cut_31 rfl rfl ?_
        obtain ⟨z6, hz6, h⟩ := sx_bd h
        refine sx_callV (o := 8) (As := [.int v3]) (rest := []) KSX (F3_rowEnd_ck l  v3 q hz6) mi_X3_rowEnd gw_356 rfl ⟨gw_358, gw_1⟩ shX_8 rfl rfl ⟨Nat.le_of_ble_eq_true rfl, Nat.le_of_ble_eq_true rfl⟩ (Nat.le_of_ble_eq_true rfl) dX3_cut_32 rfl ?_
        obtain ⟨x7, ex7, h⟩ := sx_lt h
        refine sx_nmI ex7 ?_
        refine sx_istore_n (ls2 := [(2, .int x7), (0, .ref 8), (1, .int v1), (3, .int v3)]) dX3_cut_35 rfl (by decide) rfl ?_
        refine sx_aload_n dX3_cut_36 rfl rfl ?_
        refine sx_getR dX3_cut_37 (hs := shX_8) (k9 := 3) (hf := rfl) cb_X3 ⟨by decide, rfl, gw_160⟩ ?_
        refine sx_iload_n dX3_cut_40 rfl rfl ?_
        refine sx_aload_n dX3_cut_41 rfl rfl ?_
        refine sx_iload_n dX3_cut_42 rfl rfl ?_
        refine sx_iload_n dX3_cut_43 rfl rfl ?_
        obtain ⟨z8, hz8, h⟩ := sx_bd h
        refine sx_callV (o := 8) (As := [.int v3, .int x7]) (rest := [.int v1, .ref 17]) KSX (F3_tokenOf_ck l  v3 x7 z6.2 hz8) mi_X3_tokenOf gw_366 rfl ⟨gw_368, gw_2⟩ shX_8 rfl rfl ⟨Nat.le_of_ble_eq_true rfl, Nat.le_of_ble_eq_true rfl⟩ (Nat.le_of_ble_eq_true rfl) dX3_cut_44 rfl ?_
        obtain ⟨g9, h⟩ := sx_gd h
        obtain ⟨q9, eq9, h⟩ := sx_lt h
        refine sx_iast dX3_cut_47 shX_17 (fun _ _ => rfl) (sx_ix_in g9) ?_
        refine sx_nmQ eq9 ?_
        refine sx_aload_n dX3_cut_48 rfl rfl ?_
        refine sx_getR dX3_cut_49 (hs := shX_8) (k9 := 4) (hf := rfl) cb_X3 ⟨by decide, rfl, gw_161⟩ ?_
        refine sx_iload_n dX3_cut_52 rfl rfl ?_
        refine sx_iload_n dX3_cut_53 rfl rfl ?_
        obtain ⟨g9, h⟩ := sx_gd h
        obtain ⟨q10, eq10, h⟩ := sx_lt h
        refine sx_iast dX3_cut_54 shX_18 (fun _ _ => rfl) (sx_ix_in g9) ?_
        refine sx_nmQ eq10 ?_
        obtain ⟨x11, ex11, h⟩ := sx_lt h
        refine sx_iinc (k9 := 2) (v := x11) (ls2 := [(1, .int x11), (2, .int x7), (0, .ref 8), (3, .int v3)]) dX3_cut_55 rfl (by rw [ex11, sx_ofI1]) (by decide) rfl ?_
        refine sx_locs [2, 0, 1, 3] rfl ?_
        exact F3_cut_58_ok l  x11 x7 v3 q10 h hk9
def F3_cut_6  (v1 : Int32) (v2 : Int32) (v3 : Int32) (q : SQ) : Option (Unit × SQ) := sx_loop (fun s14 => F3_cut_6b  s14.1 s14.2.1 s14.2.2.1 s14.2.2.2) FU (v1, v2, v3, q)
set_option maxHeartbeats 400000 in
theorem F3_cut_6_ok (l : Launch)  {Q : Option Value → SQ → Prop} (v1 : Int32) (v2 : Int32) (v3 : Int32) (q : SQ) {t : Unit × SQ} (h : F3_cut_6  v1 v2 v3 q = some t) (hk9 : Q none t.2) : PF3_cut l Q 6 [(0, .ref 8), (1, .int v1), (2, .int v2), (3, .int v3)] [] q := by
  unfold F3_cut_6 at h
  have st : ∀ (s : Int32 × Int32 × Int32 × SQ) (res : (Int32 × Int32 × Int32 × SQ) ⊕ (Unit × SQ)), F3_cut_6b  s.1 s.2.1 s.2.2.1 s.2.2.2 = some res → (∀ s2, res = .inl s2 → PF3_cut l Q 6 [(0, .ref 8), (1, .int s2.1), (2, .int s2.2.1), (3, .int s2.2.2.1)] [] s2.2.2.2) → (∀ t2, res = .inr t2 → Q none t2.2) → PF3_cut l Q 6 [(0, .ref 8), (1, .int s.1), (2, .int s.2.1), (3, .int s.2.2.1)] [] s.2.2.2 :=
    fun s res hb hi ho => F3_cut_6b_ok l  s.1 s.2.1 s.2.2.1 s.2.2.2 hb ⟨hi, ho⟩
  have h9 : PF3_cut l Q 6 [(0, .ref 8), (1, .int v1), (2, .int v2), (3, .int v3)] [] q := sx_lp (body := fun s => F3_cut_6b  s.1 s.2.1 s.2.2.1 s.2.2.2) (P := fun s => PF3_cut l Q 6 [(0, .ref 8), (1, .int s.1), (2, .int s.2.1), (3, .int s.2.2.1)] [] s.2.2.2) (T := fun t => Q none t.2) st FU (v1, v2, v3, q) t h hk9
  exact h9
def F3_cut   (q : SQ) : Option (Unit × SQ) :=
  F3_cut_6  (0 : Int32) (0 : Int32) (0 : Int32) q
set_option maxHeartbeats 400000 in
theorem F3_cut_ok (l : Launch)  {Q : Option Value → SQ → Prop}  (q : SQ) {res : Unit × SQ} (h : F3_cut   q = some res) (hk9 : Q none res.2) : PF3_cut l Q 0 [(0, .ref 8)] [] q := by
  unfold F3_cut at h
  refine sx_iconst (v := (0 : Int32)) dX3_cut_0 (by decide) ?_
  refine sx_istore_n (ls2 := [(1, .int (0 : Int32)), (0, .ref 8)]) dX3_cut_1 rfl (by decide) rfl ?_
  refine sx_iconst (v := (0 : Int32)) dX3_cut_2 (by decide) ?_
  refine sx_istore_n (ls2 := [(2, .int (0 : Int32)), (1, .int (0 : Int32)), (0, .ref 8)]) dX3_cut_3 rfl (by decide) rfl ?_
  refine sx_iconst (v := (0 : Int32)) dX3_cut_4 (by decide) ?_
  refine sx_istore_n (ls2 := [(3, .int (0 : Int32)), (2, .int (0 : Int32)), (1, .int (0 : Int32)), (0, .ref 8)]) dX3_cut_5 rfl (by decide) rfl ?_
  refine sx_locs [3, 2, 1, 0] rfl ?_
  exact F3_cut_6_ok l  (0 : Int32) (0 : Int32) (0 : Int32) q h hk9
theorem F3_cut_ck (l : Launch)   (q : SQ) {r : Unit × SQ} (h : F3_cut   q = some r) : CK shX vwCl KX tfX l yX3_cut cX3_cut 4 (none) 6 131 [.ref 8] q none r.2 :=
  CK.of mi_X3_cut (Nat.le_of_ble_eq_true rfl) (F3_cut_ok l   q h ⟨rfl, rfl⟩)
theorem mi_X4_schedule : sx_MI yX4_schedule cX4_schedule 5 (none) 4 := ⟨by decide, ⟨by decide, by decide, by decide +kernel⟩, gw_283, gw_61⟩
abbrev PF4_schedule (l : Launch) (Q : Option Value → SQ → Prop) : Nat → List (Nat × Value) → List Value → SQ → Prop := XX shX vwCl KX tfX l RX4 cX4_schedule 5 (none) { frames := 0, cells := 0, slots := 0, locals := 0 } Q
def F4_schedule (k : Nat) (v1 : Int32) (v2 : Int32) (v3 : Int32) (v4 : Int32) (q : SQ) : Option (Unit × SQ) :=
  sx_let (sI q k 8 v1) (fun q1 => sx_let (sI q1 k 9 v2) (fun q2 => (if sx_bt v3 = true then sx_let (sI q2 k 11 v3) (fun q3 => sx_let (sI q3 k 10 v4) (fun q4 => some ((), q4))) else none)))
set_option maxHeartbeats 400000 in
theorem F4_schedule_ok (l : Launch) (k : Nat) (hk : iSh k) {Q : Option Value → SQ → Prop} (v1 : Int32) (v2 : Int32) (v3 : Int32) (v4 : Int32) (q : SQ) {res : Unit × SQ} (h : F4_schedule k v1 v2 v3 v4 q = some res) (hk9 : Q none res.2) : PF4_schedule l Q 0 [(0, .ref k), (1, .int v1), (2, .int v2), (3, .int v3), (4, .int v4)] [] q := by
  unfold F4_schedule at h
  refine sx_aload_n dX4_schedule_0 rfl rfl ?_
  refine sx_iload_n dX4_schedule_1 rfl rfl ?_
  obtain ⟨q1, eq1, h⟩ := sx_lt h
  refine sx_putI dX4_schedule_2 (hs := hk.1) (k9 := 8) (hf := rfl) cb_X4 ⟨by decide, rfl, gw_112⟩ rfl (by decide) ?_
  refine sx_nmQ eq1 ?_
  refine sx_aload_n dX4_schedule_5 rfl rfl ?_
  refine sx_iload_n dX4_schedule_6 rfl rfl ?_
  obtain ⟨q2, eq2, h⟩ := sx_lt h
  refine sx_putI dX4_schedule_7 (hs := hk.1) (k9 := 9) (hf := rfl) cb_X4 ⟨by decide, rfl, gw_114⟩ rfl (by decide) ?_
  refine sx_nmQ eq2 ?_
  refine sx_aload_n dX4_schedule_10 rfl rfl ?_
  refine sx_iload_n dX4_schedule_11 rfl rfl ?_
  obtain ⟨g9, h⟩ := sx_gd h
  obtain ⟨q3, eq3, h⟩ := sx_lt h
  refine sx_putZ dX4_schedule_12 (hs := hk.1) (k9 := 11) (hf := rfl) cb_X4 ⟨by decide, rfl, gw_118⟩ rfl (by decide) (sx_bit g9) ?_
  refine sx_nmQ eq3 ?_
  refine sx_aload_n dX4_schedule_15 rfl rfl ?_
  refine sx_iload dX4_schedule_16 rfl ?_
  obtain ⟨q4, eq4, h⟩ := sx_lt h
  refine sx_putI dX4_schedule_18 (hs := hk.1) (k9 := 10) (hf := rfl) cb_X4 ⟨by decide, rfl, gw_116⟩ rfl (by decide) ?_
  refine sx_nmQ eq4 ?_
  obtain rfl := Option.some.inj h
  exact sx_vret dX4_schedule_21 rfl hk9
theorem F4_schedule_ck (l : Launch) (k : Nat) (hk : iSh k) (v1 : Int32) (v2 : Int32) (v3 : Int32) (v4 : Int32) (q : SQ) {r : Unit × SQ} (h : F4_schedule k v1 v2 v3 v4 q = some r) : CK shX vwCl KX tfX l yX4_schedule cX4_schedule 5 (none) 0 0 [.ref k, .int v1, .int v2, .int v3, .int v4] q none r.2 :=
  CK.of mi_X4_schedule (Nat.le_of_ble_eq_true rfl) (F4_schedule_ok l k hk v1 v2 v3 v4 q h ⟨rfl, rfl⟩)
theorem mi_X4_payNothing : sx_MI yX4_payNothing cX4_payNothing 2 (none) 0 := ⟨by decide, ⟨by decide, by decide, by decide +kernel⟩, gw_287, gw_61⟩
abbrev PF4_payNothing (l : Launch) (Q : Option Value → SQ → Prop) : Nat → List (Nat × Value) → List Value → SQ → Prop := XX shX vwCl KX tfX l RX4 cX4_payNothing 2 (none) { frames := 0, cells := 0, slots := 0, locals := 0 } Q
def F4_payNothing_2b (k : Nat) (v1 : Int32) (q : SQ) : Option ((Int32 × SQ) ⊕ (Unit × SQ)) :=
  (if (4 : Int32) ≤ v1 then some (.inr ((), q)) else (if sx_ix v1 4 = true then sx_let (sI q (k + 6) v1.toNatClampNeg (0 : Int32)) (fun q1 => sx_let (v1 + (1 : Int32)) (fun x2 => some (.inl (x2, q1)))) else none))
set_option maxHeartbeats 400000 in
theorem F4_payNothing_2b_ok (l : Launch) (k : Nat) (hk : iSh k) {Q : Option Value → SQ → Prop} (v1 : Int32) (q : SQ) {res : (Int32 × SQ) ⊕ (Unit × SQ)} (h : F4_payNothing_2b k v1 q = some res) (hk9 : (∀ a3, res = .inl a3 → PF4_payNothing l Q 2 [(0, .ref k), (1, .int a3.1)] [] a3.2) ∧ (∀ b4, res = .inr b4 → Q none b4.2)) : PF4_payNothing l Q 2 [(0, .ref k), (1, .int v1)] [] q := by
  unfold F4_payNothing_2b at h
  refine sx_iload_n dX4_payNothing_2 rfl rfl ?_
  refine sx_iconst (v := (4 : Int32)) dX4_payNothing_3 (by decide) ?_
  refine sx_icmp_ge (tgt := 20) dX4_payNothing_4 (by decide) (fun c9 => ?_) (fun c9 => ?_)
  · replace h := sx_ip h c9
    have hk9 := hk9.2 _ (Option.some.inj h).symm
    exact sx_vret dX4_payNothing_20 rfl hk9
  · replace h := sx_in h c9
    refine sx_aload_n dX4_payNothing_7 rfl rfl ?_
    refine sx_getR dX4_payNothing_8 (hs := hk.1) (k9 := 7) (hf := rfl) cb_X4 ⟨by decide, rfl, gw_109⟩ ?_
    refine sx_iload_n dX4_payNothing_11 rfl rfl ?_
    refine sx_iconst (v := (0 : Int32)) dX4_payNothing_12 (by decide) ?_
    obtain ⟨g9, h⟩ := sx_gd h
    obtain ⟨q1, eq1, h⟩ := sx_lt h
    refine sx_iast dX4_payNothing_13 hk.2.2.2.2.2.2 (fun _ _ => rfl) (sx_ix_in g9) ?_
    refine sx_nmQ eq1 ?_
    obtain ⟨x2, ex2, h⟩ := sx_lt h
    refine sx_iinc (k9 := 1) (v := x2) (ls2 := [(1, .int x2), (0, .ref k)]) dX4_payNothing_14 rfl (by rw [ex2, sx_ofI1]) (by decide) rfl ?_
    refine sx_goto (tgt := 2) dX4_payNothing_17 (by decide) ?_
    refine sx_locs [1, 0] rfl ?_
    exact hk9.1 (x2, q1) (Option.some.inj h).symm
def F4_payNothing_2 (k : Nat) (v1 : Int32) (q : SQ) : Option (Unit × SQ) := sx_loop (fun s5 => F4_payNothing_2b k s5.1 s5.2) FU (v1, q)
set_option maxHeartbeats 400000 in
theorem F4_payNothing_2_ok (l : Launch) (k : Nat) (hk : iSh k) {Q : Option Value → SQ → Prop} (v1 : Int32) (q : SQ) {t : Unit × SQ} (h : F4_payNothing_2 k v1 q = some t) (hk9 : Q none t.2) : PF4_payNothing l Q 2 [(0, .ref k), (1, .int v1)] [] q := by
  unfold F4_payNothing_2 at h
  have st : ∀ (s : Int32 × SQ) (res : (Int32 × SQ) ⊕ (Unit × SQ)), F4_payNothing_2b k s.1 s.2 = some res → (∀ s2, res = .inl s2 → PF4_payNothing l Q 2 [(0, .ref k), (1, .int s2.1)] [] s2.2) → (∀ t2, res = .inr t2 → Q none t2.2) → PF4_payNothing l Q 2 [(0, .ref k), (1, .int s.1)] [] s.2 :=
    fun s res hb hi ho => F4_payNothing_2b_ok l k hk s.1 s.2 hb ⟨hi, ho⟩
  have h9 : PF4_payNothing l Q 2 [(0, .ref k), (1, .int v1)] [] q := sx_lp (body := fun s => F4_payNothing_2b k s.1 s.2) (P := fun s => PF4_payNothing l Q 2 [(0, .ref k), (1, .int s.1)] [] s.2) (T := fun t => Q none t.2) st FU (v1, q) t h hk9
  exact h9
def F4_payNothing (k : Nat)  (q : SQ) : Option (Unit × SQ) :=
  F4_payNothing_2 k (0 : Int32) q
set_option maxHeartbeats 400000 in
theorem F4_payNothing_ok (l : Launch) (k : Nat) (hk : iSh k) {Q : Option Value → SQ → Prop}  (q : SQ) {res : Unit × SQ} (h : F4_payNothing k  q = some res) (hk9 : Q none res.2) : PF4_payNothing l Q 0 [(0, .ref k)] [] q := by
  unfold F4_payNothing at h
  refine sx_iconst (v := (0 : Int32)) dX4_payNothing_0 (by decide) ?_
  refine sx_istore_n (ls2 := [(1, .int (0 : Int32)), (0, .ref k)]) dX4_payNothing_1 rfl (by decide) rfl ?_
  refine sx_locs [1, 0] rfl ?_
  exact F4_payNothing_2_ok l k hk (0 : Int32) q h hk9
theorem F4_payNothing_ck (l : Launch) (k : Nat) (hk : iSh k)  (q : SQ) {r : Unit × SQ} (h : F4_payNothing k  q = some r) : CK shX vwCl KX tfX l yX4_payNothing cX4_payNothing 2 (none) 0 0 [.ref k] q none r.2 :=
  CK.of mi_X4_payNothing (Nat.le_of_ble_eq_true rfl) (F4_payNothing_ok l k hk  q h ⟨rfl, rfl⟩)
theorem mi_X4_wipe : sx_MI yX4_wipe cX4_wipe 1 (none) 0 := ⟨by decide, ⟨by decide, by decide, by decide +kernel⟩, gw_279, gw_61⟩
abbrev PF4_wipe (l : Launch) (Q : Option Value → SQ → Prop) : Nat → List (Nat × Value) → List Value → SQ → Prop := XX shX vwCl KX tfX l RX4 cX4_wipe 1 (none) { frames := 1, cells := 0, slots := 0, locals := 24 } Q
def F4_wipe (k : Nat)  (q : SQ) : Option (Unit × SQ) :=
  sx_let (sI q k 0 (0 : Int32)) (fun q1 => sx_let (sI q1 k 1 (0 : Int32)) (fun q2 => (F4_schedule k (0 : Int32) (0 : Int32) (1 : Int32) (0 : Int32) q2).bind (fun z3 => (F4_payNothing k  z3.2).bind (fun z4 => some ((), z4.2)))))
set_option maxHeartbeats 400000 in
theorem F4_wipe_ok (l : Launch) (k : Nat) (hk : iSh k) {Q : Option Value → SQ → Prop}  (q : SQ) {res : Unit × SQ} (h : F4_wipe k  q = some res) (hk9 : Q none res.2) : PF4_wipe l Q 0 [(0, .ref k)] [] q := by
  unfold F4_wipe at h
  refine sx_aload_n dX4_wipe_0 rfl rfl ?_
  refine sx_iconst (v := (0 : Int32)) dX4_wipe_1 (by decide) ?_
  obtain ⟨q1, eq1, h⟩ := sx_lt h
  refine sx_putI dX4_wipe_2 (hs := hk.1) (k9 := 0) (hf := rfl) cb_X4 ⟨by decide, rfl, gw_88⟩ rfl (by decide) ?_
  refine sx_nmQ eq1 ?_
  refine sx_aload_n dX4_wipe_5 rfl rfl ?_
  refine sx_iconst (v := (0 : Int32)) dX4_wipe_6 (by decide) ?_
  obtain ⟨q2, eq2, h⟩ := sx_lt h
  refine sx_putI dX4_wipe_7 (hs := hk.1) (k9 := 1) (hf := rfl) cb_X4 ⟨by decide, rfl, gw_92⟩ rfl (by decide) ?_
  refine sx_nmQ eq2 ?_
  refine sx_aload_n dX4_wipe_10 rfl rfl ?_
  refine sx_iconst (v := (0 : Int32)) dX4_wipe_11 (by decide) ?_
  refine sx_iconst (v := (0 : Int32)) dX4_wipe_12 (by decide) ?_
  refine sx_iconst (v := (1 : Int32)) dX4_wipe_13 (by decide) ?_
  refine sx_iconst (v := (0 : Int32)) dX4_wipe_14 (by decide) ?_
  obtain ⟨z3, hz3, h⟩ := sx_bd h
  refine sx_callV (o := k) (As := [.int (0 : Int32), .int (0 : Int32), .int (1 : Int32), .int (0 : Int32)]) (rest := []) KSX (F4_schedule_ck l k hk (0 : Int32) (0 : Int32) (1 : Int32) (0 : Int32) q2 hz3) mi_X4_schedule gw_280 rfl ⟨gw_281, gw_282⟩ hk.1 rfl rfl ⟨Nat.le_of_ble_eq_true rfl, Nat.le_of_ble_eq_true rfl⟩ (Nat.le_of_ble_eq_true rfl) dX4_wipe_15 rfl ?_
  refine sx_aload_n dX4_wipe_18 rfl rfl ?_
  obtain ⟨z4, hz4, h⟩ := sx_bd h
  refine sx_callV (o := k) (As := []) (rest := []) KSX (F4_payNothing_ck l k hk  z3.2 hz4) mi_X4_payNothing gw_284 rfl ⟨gw_285, gw_286⟩ hk.1 rfl rfl ⟨Nat.le_of_ble_eq_true rfl, Nat.le_of_ble_eq_true rfl⟩ (Nat.le_of_ble_eq_true rfl) dX4_wipe_19 rfl ?_
  obtain rfl := Option.some.inj h
  exact sx_vret dX4_wipe_22 rfl hk9
theorem F4_wipe_ck (l : Launch) (k : Nat) (hk : iSh k)  (q : SQ) {r : Unit × SQ} (h : F4_wipe k  q = some r) : CK shX vwCl KX tfX l yX4_wipe cX4_wipe 1 (none) 1 24 [.ref k] q none r.2 :=
  CK.of mi_X4_wipe (Nat.le_of_ble_eq_true rfl) (F4_wipe_ok l k hk  q h ⟨rfl, rfl⟩)
theorem mi_X3_seen : sx_MI yX3_seen cX3_seen 1 ((some .int)) 0 := ⟨by decide, ⟨by decide, by decide, by decide +kernel⟩, gw_436, gw_62⟩
abbrev PF3_seen (l : Launch) (Q : Option Value → SQ → Prop) : Nat → List (Nat × Value) → List Value → SQ → Prop := XX shX vwCl KX tfX l RX3 cX3_seen 1 ((some .int)) { frames := 0, cells := 0, slots := 0, locals := 0 } Q
def F3_seen   (q : SQ) : Option (Int32 × SQ) :=
  (if (401 : Int32) ≤ gI q 8 5 then some ((-8 : Int32), q) else (if sx_ix (gI q 8 5) 401 = true then some (gI q 17 (gI q 8 5).toNatClampNeg, q) else none))
set_option maxHeartbeats 400000 in
theorem F3_seen_ok (l : Launch)  {Q : Option Value → SQ → Prop}  (q : SQ) {res : Int32 × SQ} (h : F3_seen   q = some res) (hk9 : Q (some (.int res.1)) res.2) : PF3_seen l Q 0 [(0, .ref 8)] [] q := by
  unfold F3_seen at h
  refine sx_aload_n dX3_seen_0 rfl rfl ?_
  refine sx_getI dX3_seen_1 (hs := shX_8) (k9 := 5) (hf := rfl) cb_X3 ⟨by decide, rfl, gw_162⟩ ?_
  refine sx_aload_n dX3_seen_4 rfl rfl ?_
  refine sx_getR dX3_seen_5 (hs := shX_8) (k9 := 3) (hf := rfl) cb_X3 ⟨by decide, rfl, gw_160⟩ ?_
  refine sx_alen (v := (401 : Int32)) dX3_seen_8 shX_17 (fun _ _ => rfl) (by decide) ?_
  refine sx_icmp_ge (tgt := 24) dX3_seen_9 (by decide) (fun c9 => ?_) (fun c9 => ?_)
  · replace h := sx_ip h c9
    refine sx_bipush (v := (-8 : Int32)) dX3_seen_24 (by decide) ?_
    obtain rfl := Option.some.inj h
    exact sx_iret dX3_seen_26 rfl hk9
  · replace h := sx_in h c9
    refine sx_aload_n dX3_seen_12 rfl rfl ?_
    refine sx_getR dX3_seen_13 (hs := shX_8) (k9 := 3) (hf := rfl) cb_X3 ⟨by decide, rfl, gw_160⟩ ?_
    refine sx_aload_n dX3_seen_16 rfl rfl ?_
    refine sx_getI dX3_seen_17 (hs := shX_8) (k9 := 5) (hf := rfl) cb_X3 ⟨by decide, rfl, gw_162⟩ ?_
    obtain ⟨g9, h⟩ := sx_gd h
    refine sx_iald dX3_seen_20 shX_17 (fun _ _ => rfl) (sx_ix_in g9) ?_
    refine sx_goto (tgt := 26) dX3_seen_21 (by decide) ?_
    obtain rfl := Option.some.inj h
    exact sx_iret dX3_seen_26 rfl hk9
theorem F3_seen_ck (l : Launch)   (q : SQ) {r : Int32 × SQ} (h : F3_seen   q = some r) : CK shX vwCl KX tfX l yX3_seen cX3_seen 1 ((some .int)) 0 0 [.ref 8] q (some (.int r.1)) r.2 :=
  CK.of mi_X3_seen (Nat.le_of_ble_eq_true rfl) (F3_seen_ok l   q h ⟨rfl, rfl⟩)
theorem mi_X3_readNumber : sx_MI yX3_readNumber cX3_readNumber 4 ((some .int)) 2 := ⟨by decide, ⟨by decide, by decide, by decide +kernel⟩, gw_448, gw_62⟩
abbrev PF3_readNumber (l : Launch) (Q : Option Value → SQ → Prop) : Nat → List (Nat × Value) → List Value → SQ → Prop := XX shX vwCl KX tfX l RX3 cX3_readNumber 4 ((some .int)) { frames := 1, cells := 0, slots := 0, locals := 22 } Q
def F3_readNumber  (v1 : Int32) (v2 : Int32) (q : SQ) : Option (Int32 × SQ) :=
  (F3_seen   q).bind (fun z1 => sx_let z1.1 (fun x2 => (F6_within  x2 v1 v2 z1.2).bind (fun z3 => (if z3.1 = 0 then some ((-1 : Int32), z3.2) else sx_let (sI z3.2 8 5 ((gI z3.2 8 5) + (1 : Int32))) (fun q4 => some (x2, q4))))))
set_option maxHeartbeats 400000 in
theorem F3_readNumber_ok (l : Launch)  {Q : Option Value → SQ → Prop} (v1 : Int32) (v2 : Int32) (q : SQ) {res : Int32 × SQ} (h : F3_readNumber  v1 v2 q = some res) (hk9 : Q (some (.int res.1)) res.2) : PF3_readNumber l Q 0 [(0, .ref 8), (1, .int v1), (2, .int v2)] [] q := by
  unfold F3_readNumber at h
  refine sx_aload_n dX3_readNumber_0 rfl rfl ?_
  obtain ⟨z1, hz1, h⟩ := sx_bd h
  refine sx_callV (o := 8) (As := []) (rest := []) KSX (F3_seen_ck l   q hz1) mi_X3_seen gw_433 rfl ⟨gw_435, gw_5⟩ shX_8 rfl rfl ⟨Nat.le_of_ble_eq_true rfl, Nat.le_of_ble_eq_true rfl⟩ (Nat.le_of_ble_eq_true rfl) dX3_readNumber_1 rfl ?_
  obtain ⟨x2, ex2, h⟩ := sx_lt h
  refine sx_nmI ex2 ?_
  refine sx_istore_n (ls2 := [(3, .int x2), (0, .ref 8), (1, .int v1), (2, .int v2)]) dX3_readNumber_4 rfl (by decide) rfl ?_
  refine sx_iload_n dX3_readNumber_5 rfl rfl ?_
  refine sx_iload_n dX3_readNumber_6 rfl rfl ?_
  refine sx_iload_n dX3_readNumber_7 rfl rfl ?_
  obtain ⟨z3, hz3, h⟩ := sx_bd h
  refine sx_callSN (As := [.int x2, .int v1, .int v2]) (rest := []) KSX (F6_within_ck l  x2 v1 v2 z1.2 hz3) mi_X6_within nw_RX3_98 rfl gw_334 ⟨Nat.le_of_ble_eq_true rfl, Nat.le_of_ble_eq_true rfl⟩ (Nat.le_of_ble_eq_true rfl) dX3_readNumber_8 rfl ?_
  refine sx_if_ne (tgt := 16) dX3_readNumber_11 (by decide) (fun c9 => ?_) (fun c9 => ?_)
  · replace h := sx_in h c9
    refine sx_aload_n dX3_readNumber_16 rfl rfl ?_
    refine sx_dup dX3_readNumber_17 rfl ?_
    refine sx_getI dX3_readNumber_18 (hs := shX_8) (k9 := 5) (hf := rfl) cb_X3 ⟨by decide, rfl, gw_162⟩ ?_
    refine sx_iconst (v := (1 : Int32)) dX3_readNumber_21 (by decide) ?_
    refine sx_iadd dX3_readNumber_22 ?_
    obtain ⟨q4, eq4, h⟩ := sx_lt h
    refine sx_putI dX3_readNumber_23 (hs := shX_8) (k9 := 5) (hf := rfl) cb_X3 ⟨by decide, rfl, gw_162⟩ rfl (by decide) ?_
    refine sx_nmQ eq4 ?_
    refine sx_iload_n dX3_readNumber_26 rfl rfl ?_
    obtain rfl := Option.some.inj h
    exact sx_iret dX3_readNumber_27 rfl hk9
  · replace h := sx_ip h c9
    refine sx_iconst (v := (-1 : Int32)) dX3_readNumber_14 (by decide) ?_
    obtain rfl := Option.some.inj h
    exact sx_iret dX3_readNumber_15 rfl hk9
theorem F3_readNumber_ck (l : Launch)  (v1 : Int32) (v2 : Int32) (q : SQ) {r : Int32 × SQ} (h : F3_readNumber  v1 v2 q = some r) : CK shX vwCl KX tfX l yX3_readNumber cX3_readNumber 4 ((some .int)) 1 22 [.ref 8, .int v1, .int v2] q (some (.int r.1)) r.2 :=
  CK.of mi_X3_readNumber (Nat.le_of_ble_eq_true rfl) (F3_readNumber_ok l  v1 v2 q h ⟨rfl, rfl⟩)
theorem mi_X4_addChild : sx_MI yX4_addChild cX4_addChild 4 (none) 3 := ⟨by decide, ⟨by decide, by decide, by decide +kernel⟩, gw_453, gw_61⟩
abbrev PF4_addChild (l : Launch) (Q : Option Value → SQ → Prop) : Nat → List (Nat × Value) → List Value → SQ → Prop := XX shX vwCl KX tfX l RX4 cX4_addChild 4 (none) { frames := 0, cells := 0, slots := 0, locals := 0 } Q
def F4_addChild (k : Nat) (v1 : Int32) (v2 : Int32) (v3 : Int32) (q : SQ) : Option (Unit × SQ) :=
  (if gI q k 0 < (8 : Int32) then (if sx_ix (gI q k 0) 8 = true then sx_let (sI q (k + 1) (gI q k 0).toNatClampNeg v1) (fun q1 => (if sx_ix (gI q1 k 0) 8 = true then sx_let (sI q1 (k + 2) (gI q1 k 0).toNatClampNeg v2) (fun q2 => (if sx_ix (gI q2 k 0) 8 = true then sx_let (sI q2 (k + 3) (gI q2 k 0).toNatClampNeg v3) (fun q3 => sx_let (sI q3 k 0 ((gI q3 k 0) + (1 : Int32))) (fun q4 => some ((), q4))) else none)) else none)) else none) else some ((), q))
set_option maxHeartbeats 400000 in
theorem F4_addChild_ok (l : Launch) (k : Nat) (hk : iSh k) {Q : Option Value → SQ → Prop} (v1 : Int32) (v2 : Int32) (v3 : Int32) (q : SQ) {res : Unit × SQ} (h : F4_addChild k v1 v2 v3 q = some res) (hk9 : Q none res.2) : PF4_addChild l Q 0 [(0, .ref k), (1, .int v1), (2, .int v2), (3, .int v3)] [] q := by
  unfold F4_addChild at h
  refine sx_aload_n dX4_addChild_0 rfl rfl ?_
  refine sx_getI dX4_addChild_1 (hs := hk.1) (k9 := 0) (hf := rfl) cb_X4 ⟨by decide, rfl, gw_88⟩ ?_
  refine sx_bipush (v := (8 : Int32)) dX4_addChild_4 (by decide) ?_
  refine sx_icmp_lt (tgt := 10) dX4_addChild_6 (by decide) (fun c9 => ?_) (fun c9 => ?_)
  · replace h := sx_ip h c9
    refine sx_aload_n dX4_addChild_10 rfl rfl ?_
    refine sx_getR dX4_addChild_11 (hs := hk.1) (k9 := 2) (hf := rfl) cb_X4 ⟨by decide, rfl, gw_96⟩ ?_
    refine sx_aload_n dX4_addChild_14 rfl rfl ?_
    refine sx_getI dX4_addChild_15 (hs := hk.1) (k9 := 0) (hf := rfl) cb_X4 ⟨by decide, rfl, gw_88⟩ ?_
    refine sx_iload_n dX4_addChild_18 rfl rfl ?_
    obtain ⟨g9, h⟩ := sx_gd h
    obtain ⟨q1, eq1, h⟩ := sx_lt h
    refine sx_iast dX4_addChild_19 hk.2.1 (fun _ _ => rfl) (sx_ix_in g9) ?_
    refine sx_nmQ eq1 ?_
    refine sx_aload_n dX4_addChild_20 rfl rfl ?_
    refine sx_getR dX4_addChild_21 (hs := hk.1) (k9 := 3) (hf := rfl) cb_X4 ⟨by decide, rfl, gw_99⟩ ?_
    refine sx_aload_n dX4_addChild_24 rfl rfl ?_
    refine sx_getI dX4_addChild_25 (hs := hk.1) (k9 := 0) (hf := rfl) cb_X4 ⟨by decide, rfl, gw_88⟩ ?_
    refine sx_iload_n dX4_addChild_28 rfl rfl ?_
    obtain ⟨g9, h⟩ := sx_gd h
    obtain ⟨q2, eq2, h⟩ := sx_lt h
    refine sx_iast dX4_addChild_29 hk.2.2.1 (fun _ _ => rfl) (sx_ix_in g9) ?_
    refine sx_nmQ eq2 ?_
    refine sx_aload_n dX4_addChild_30 rfl rfl ?_
    refine sx_getR dX4_addChild_31 (hs := hk.1) (k9 := 4) (hf := rfl) cb_X4 ⟨by decide, rfl, gw_101⟩ ?_
    refine sx_aload_n dX4_addChild_34 rfl rfl ?_
    refine sx_getI dX4_addChild_35 (hs := hk.1) (k9 := 0) (hf := rfl) cb_X4 ⟨by decide, rfl, gw_88⟩ ?_
    refine sx_iload_n dX4_addChild_38 rfl rfl ?_
    obtain ⟨g9, h⟩ := sx_gd h
    obtain ⟨q3, eq3, h⟩ := sx_lt h
    refine sx_iast dX4_addChild_39 hk.2.2.2.1 (fun _ _ => rfl) (sx_ix_in g9) ?_
    refine sx_nmQ eq3 ?_
    refine sx_aload_n dX4_addChild_40 rfl rfl ?_
    refine sx_dup dX4_addChild_41 rfl ?_
    refine sx_getI dX4_addChild_42 (hs := hk.1) (k9 := 0) (hf := rfl) cb_X4 ⟨by decide, rfl, gw_88⟩ ?_
    refine sx_iconst (v := (1 : Int32)) dX4_addChild_45 (by decide) ?_
    refine sx_iadd dX4_addChild_46 ?_
    obtain ⟨q4, eq4, h⟩ := sx_lt h
    refine sx_putI dX4_addChild_47 (hs := hk.1) (k9 := 0) (hf := rfl) cb_X4 ⟨by decide, rfl, gw_88⟩ rfl (by decide) ?_
    refine sx_nmQ eq4 ?_
    obtain rfl := Option.some.inj h
    exact sx_vret dX4_addChild_50 rfl hk9
  · replace h := sx_in h c9
    obtain rfl := Option.some.inj h
    exact sx_vret dX4_addChild_9 rfl hk9
theorem F4_addChild_ck (l : Launch) (k : Nat) (hk : iSh k) (v1 : Int32) (v2 : Int32) (v3 : Int32) (q : SQ) {r : Unit × SQ} (h : F4_addChild k v1 v2 v3 q = some r) : CK shX vwCl KX tfX l yX4_addChild cX4_addChild 4 (none) 0 0 [.ref k, .int v1, .int v2, .int v3] q none r.2 :=
  CK.of mi_X4_addChild (Nat.le_of_ble_eq_true rfl) (F4_addChild_ok l k hk v1 v2 v3 q h ⟨rfl, rfl⟩)
theorem mi_X3_readChild : sx_MI yX3_readChild cX3_readChild 4 ((some .boolean)) 0 := ⟨by decide, ⟨by decide, by decide, by decide +kernel⟩, gw_444, gw_62⟩
abbrev PF3_readChild (l : Launch) (Q : Option Value → SQ → Prop) : Nat → List (Nat × Value) → List Value → SQ → Prop := XX shX vwCl KX tfX l RX3 cX3_readChild 4 ((some .boolean)) { frames := 2, cells := 0, slots := 0, locals := 45 } Q
def F3_readChild   (q : SQ) : Option (Int32 × SQ) :=
  sx_let (sI q 8 5 ((gI q 8 5) + (1 : Int32))) (fun q1 => (F3_readNumber  (0 : Int32) (100 : Int32) q1).bind (fun z2 => sx_let z2.1 (fun x3 => (if 0 ≤ x3 then (F3_readNumber  (1 : Int32) (9 : Int32) z2.2).bind (fun z4 => sx_let z4.1 (fun x5 => (if 0 ≤ x5 then (F3_readNumber  (0 : Int32) (9 : Int32) z4.2).bind (fun z6 => sx_let z6.1 (fun x7 => (if 0 ≤ x7 then (F4_addChild 10 x3 x5 x7 z6.2).bind (fun z8 => some ((1 : Int32), z8.2)) else some ((0 : Int32), z6.2)))) else some ((0 : Int32), z4.2)))) else some ((0 : Int32), z2.2)))))
set_option maxHeartbeats 400000 in
theorem F3_readChild_ok (l : Launch)  {Q : Option Value → SQ → Prop}  (q : SQ) {res : Int32 × SQ} (h : F3_readChild   q = some res) (hk9 : Q (some (.int res.1)) res.2) : PF3_readChild l Q 0 [(0, .ref 8)] [] q := by
  unfold F3_readChild at h
  refine sx_aload_n dX3_readChild_0 rfl rfl ?_
  refine sx_dup dX3_readChild_1 rfl ?_
  refine sx_getI dX3_readChild_2 (hs := shX_8) (k9 := 5) (hf := rfl) cb_X3 ⟨by decide, rfl, gw_162⟩ ?_
  refine sx_iconst (v := (1 : Int32)) dX3_readChild_5 (by decide) ?_
  refine sx_iadd dX3_readChild_6 ?_
  obtain ⟨q1, eq1, h⟩ := sx_lt h
  refine sx_putI dX3_readChild_7 (hs := shX_8) (k9 := 5) (hf := rfl) cb_X3 ⟨by decide, rfl, gw_162⟩ rfl (by decide) ?_
  refine sx_nmQ eq1 ?_
  refine sx_aload_n dX3_readChild_10 rfl rfl ?_
  refine sx_iconst (v := (0 : Int32)) dX3_readChild_11 (by decide) ?_
  refine sx_bipush (v := (100 : Int32)) dX3_readChild_12 (by decide) ?_
  obtain ⟨z2, hz2, h⟩ := sx_bd h
  refine sx_callV (o := 8) (As := [.int (0 : Int32), .int (100 : Int32)]) (rest := []) KSX (F3_readNumber_ck l  (0 : Int32) (100 : Int32) q1 hz2) mi_X3_readNumber gw_445 rfl ⟨gw_447, gw_8⟩ shX_8 rfl rfl ⟨Nat.le_of_ble_eq_true rfl, Nat.le_of_ble_eq_true rfl⟩ (Nat.le_of_ble_eq_true rfl) dX3_readChild_14 rfl ?_
  obtain ⟨x3, ex3, h⟩ := sx_lt h
  refine sx_nmI ex3 ?_
  refine sx_istore_n (ls2 := [(1, .int x3), (0, .ref 8)]) dX3_readChild_17 rfl (by decide) rfl ?_
  refine sx_iload_n dX3_readChild_18 rfl rfl ?_
  refine sx_if_ge (tgt := 24) dX3_readChild_19 (by decide) (fun c9 => ?_) (fun c9 => ?_)
  · replace h := sx_ip h c9
    refine sx_aload_n dX3_readChild_24 rfl rfl ?_
    refine sx_iconst (v := (1 : Int32)) dX3_readChild_25 (by decide) ?_
    refine sx_bipush (v := (9 : Int32)) dX3_readChild_26 (by decide) ?_
    obtain ⟨z4, hz4, h⟩ := sx_bd h
    refine sx_callV (o := 8) (As := [.int (1 : Int32), .int (9 : Int32)]) (rest := []) KSX (F3_readNumber_ck l  (1 : Int32) (9 : Int32) z2.2 hz4) mi_X3_readNumber gw_445 rfl ⟨gw_447, gw_8⟩ shX_8 rfl rfl ⟨Nat.le_of_ble_eq_true rfl, Nat.le_of_ble_eq_true rfl⟩ (Nat.le_of_ble_eq_true rfl) dX3_readChild_28 rfl ?_
    obtain ⟨x5, ex5, h⟩ := sx_lt h
    refine sx_nmI ex5 ?_
    refine sx_istore_n (ls2 := [(2, .int x5), (1, .int x3), (0, .ref 8)]) dX3_readChild_31 rfl (by decide) rfl ?_
    refine sx_iload_n dX3_readChild_32 rfl rfl ?_
    refine sx_if_ge (tgt := 38) dX3_readChild_33 (by decide) (fun c9 => ?_) (fun c9 => ?_)
    · replace h := sx_ip h c9
      refine sx_aload_n dX3_readChild_38 rfl rfl ?_
      refine sx_iconst (v := (0 : Int32)) dX3_readChild_39 (by decide) ?_
      refine sx_bipush (v := (9 : Int32)) dX3_readChild_40 (by decide) ?_
      obtain ⟨z6, hz6, h⟩ := sx_bd h
      refine sx_callV (o := 8) (As := [.int (0 : Int32), .int (9 : Int32)]) (rest := []) KSX (F3_readNumber_ck l  (0 : Int32) (9 : Int32) z4.2 hz6) mi_X3_readNumber gw_445 rfl ⟨gw_447, gw_8⟩ shX_8 rfl rfl ⟨Nat.le_of_ble_eq_true rfl, Nat.le_of_ble_eq_true rfl⟩ (Nat.le_of_ble_eq_true rfl) dX3_readChild_42 rfl ?_
      obtain ⟨x7, ex7, h⟩ := sx_lt h
      refine sx_nmI ex7 ?_
      refine sx_istore_n (ls2 := [(3, .int x7), (2, .int x5), (1, .int x3), (0, .ref 8)]) dX3_readChild_45 rfl (by decide) rfl ?_
      refine sx_iload_n dX3_readChild_46 rfl rfl ?_
      refine sx_if_ge (tgt := 52) dX3_readChild_47 (by decide) (fun c9 => ?_) (fun c9 => ?_)
      · replace h := sx_ip h c9
        refine sx_aload_n dX3_readChild_52 rfl rfl ?_
        refine sx_getR dX3_readChild_53 (hs := shX_8) (k9 := 2) (hf := rfl) cb_X3 ⟨by decide, rfl, gw_158⟩ ?_
        refine sx_iload_n dX3_readChild_56 rfl rfl ?_
        refine sx_iload_n dX3_readChild_57 rfl rfl ?_
        refine sx_iload_n dX3_readChild_58 rfl rfl ?_
        obtain ⟨z8, hz8, h⟩ := sx_bd h
        refine sx_callV (o := 10) (As := [.int x3, .int x5, .int x7]) (rest := []) KSX (F4_addChild_ck l 10 iSh_10 x3 x5 x7 z6.2 hz8) mi_X4_addChild gw_450 rfl ⟨gw_451, gw_452⟩ shX_10 rfl rfl ⟨Nat.le_of_ble_eq_true rfl, Nat.le_of_ble_eq_true rfl⟩ (Nat.le_of_ble_eq_true rfl) dX3_readChild_59 rfl ?_
        refine sx_iconst (v := (1 : Int32)) dX3_readChild_62 (by decide) ?_
        obtain rfl := Option.some.inj h
        exact sx_zret dX3_readChild_63 rfl (by decide) hk9
      · replace h := sx_in h c9
        refine sx_iconst (v := (0 : Int32)) dX3_readChild_50 (by decide) ?_
        obtain rfl := Option.some.inj h
        exact sx_zret dX3_readChild_51 rfl (by decide) hk9
    · replace h := sx_in h c9
      refine sx_iconst (v := (0 : Int32)) dX3_readChild_36 (by decide) ?_
      obtain rfl := Option.some.inj h
      exact sx_zret dX3_readChild_37 rfl (by decide) hk9
  · replace h := sx_in h c9
    refine sx_iconst (v := (0 : Int32)) dX3_readChild_22 (by decide) ?_
    obtain rfl := Option.some.inj h
    exact sx_zret dX3_readChild_23 rfl (by decide) hk9
theorem F3_readChild_ck (l : Launch)   (q : SQ) {r : Int32 × SQ} (h : F3_readChild   q = some r) : CK shX vwCl KX tfX l yX3_readChild cX3_readChild 4 ((some .boolean)) 2 45 [.ref 8] q (some (.int r.1)) r.2 :=
  CK.of mi_X3_readChild (Nat.le_of_ble_eq_true rfl) (F3_readChild_ok l   q h ⟨rfl, rfl⟩)
