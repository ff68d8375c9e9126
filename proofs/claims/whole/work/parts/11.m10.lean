theorem mi_X7_endOn : sx_MI yX7_endOn cX7_endOn 2 ((some .int)) 1 := ⟨by decide, ⟨by decide, by decide, by decide +kernel⟩, gw_1016, gw_68⟩
abbrev PF7_endOn (l : Launch) (Q : Option Value → SQ → Prop) : Nat → List (Nat × Value) → List Value → SQ → Prop := XX shM vwCl KM tfM l RX7 cX7_endOn 2 ((some .int)) { frames := 5, cells := 0, slots := 0, locals := 130 } Q
def F7_endOn_8b  (v1 : Int32) (q : SQ) : Option ((SQ) ⊕ (Int32 × SQ)) :=
  (if v1 ≤ gI q 7 0 then (F7_allOf 7 (0 : Int32) q).bind (fun z2 => some (.inr (z2.1, z2.2))) else (F7_goesBy 7  q).bind (fun z3 => some (.inl (z3.2))))
set_option maxHeartbeats 400000 in
theorem F7_endOn_8b_ok (l : Launch)  {Q : Option Value → SQ → Prop} (v1 : Int32) (q : SQ) {res : (SQ) ⊕ (Int32 × SQ)} (h : F7_endOn_8b  v1 q = some res) (hk9 : (∀ a4, res = .inl a4 → PF7_endOn l Q 8 [(0, .ref 0), (1, .int v1)] [] a4) ∧ (∀ b5, res = .inr b5 → Q (some (.int b5.1)) b5.2)) : PF7_endOn l Q 8 [(0, .ref 0), (1, .int v1)] [] q := by
  unfold F7_endOn_8b at h
  refine sx_aload_n dX7_endOn_8 rfl rfl ?_
  refine sx_getR dX7_endOn_9 (hs := shM_0) (k9 := 14) (hf := rfl) cb_X7 ⟨by decide, rfl, gw_813⟩ ?_
  refine sx_iconst (v := (0 : Int32)) dX7_endOn_12 (by decide) ?_
  refine sx_ialdC (j9 := 0) dX7_endOn_13 shM_7 (fun _ _ => rfl) (by decide) (by decide) ?_
  refine sx_iload_n dX7_endOn_14 rfl rfl ?_
  refine sx_icmp_ge (tgt := 30) dX7_endOn_15 (by decide) (fun c9 => ?_) (fun c9 => ?_)
  · replace h := sx_ip h c9
    refine sx_aload_n dX7_endOn_30 rfl rfl ?_
    refine sx_aload_n dX7_endOn_31 rfl rfl ?_
    refine sx_getR dX7_endOn_32 (hs := shM_0) (k9 := 14) (hf := rfl) cb_X7 ⟨by decide, rfl, gw_813⟩ ?_
    refine sx_iconst (v := (0 : Int32)) dX7_endOn_35 (by decide) ?_
    obtain ⟨z2, hz2, h⟩ := sx_bd h
    refine sx_callV (o := 0) (As := [.ref 7, .int (0 : Int32)]) (rest := []) KSM (F7_allOf_ck l 7 shM_7 (0 : Int32) q hz2) mi_X7_allOf gw_993 rfl ⟨gw_995, gw_49⟩ shM_0 rfl rfl ⟨Nat.le_of_ble_eq_true rfl, Nat.le_of_ble_eq_true rfl⟩ (Nat.le_of_ble_eq_true rfl) dX7_endOn_36 rfl ?_
    have hk9 := hk9.2 _ (Option.some.inj h).symm
    exact sx_iret dX7_endOn_39 rfl hk9
  · replace h := sx_in h c9
    refine sx_aload_n dX7_endOn_18 rfl rfl ?_
    refine sx_aload_n dX7_endOn_19 rfl rfl ?_
    refine sx_getR dX7_endOn_20 (hs := shM_0) (k9 := 14) (hf := rfl) cb_X7 ⟨by decide, rfl, gw_813⟩ ?_
    obtain ⟨z3, hz3, h⟩ := sx_bd h
    refine sx_callV (o := 0) (As := [.ref 7]) (rest := []) KSM (F7_goesBy_ck l 7 shM_7  q hz3) mi_X7_goesBy gw_982 rfl ⟨gw_984, gw_48⟩ shM_0 rfl rfl ⟨Nat.le_of_ble_eq_true rfl, Nat.le_of_ble_eq_true rfl⟩ (Nat.le_of_ble_eq_true rfl) dX7_endOn_23 rfl ?_
    refine sx_pop dX7_endOn_26 rfl ?_
    refine sx_goto (tgt := 8) dX7_endOn_27 (by decide) ?_
    exact hk9.1 (z3.2) (Option.some.inj h).symm
def F7_endOn_8  (v1 : Int32) (q : SQ) : Option (Int32 × SQ) := sx_loop (fun s6 => F7_endOn_8b  v1 s6) FU (q)
set_option maxHeartbeats 400000 in
theorem F7_endOn_8_ok (l : Launch)  {Q : Option Value → SQ → Prop} (v1 : Int32) (q : SQ) {t : Int32 × SQ} (h : F7_endOn_8  v1 q = some t) (hk9 : Q (some (.int t.1)) t.2) : PF7_endOn l Q 8 [(0, .ref 0), (1, .int v1)] [] q := by
  unfold F7_endOn_8 at h
  have st : ∀ (s : SQ) (res : (SQ) ⊕ (Int32 × SQ)), F7_endOn_8b  v1 s = some res → (∀ s2, res = .inl s2 → PF7_endOn l Q 8 [(0, .ref 0), (1, .int v1)] [] s2) → (∀ t2, res = .inr t2 → Q (some (.int t2.1)) t2.2) → PF7_endOn l Q 8 [(0, .ref 0), (1, .int v1)] [] s :=
    fun s res hb hi ho => F7_endOn_8b_ok l  v1 s hb ⟨hi, ho⟩
  have h9 : PF7_endOn l Q 8 [(0, .ref 0), (1, .int v1)] [] q := sx_lp (body := fun s => F7_endOn_8b  v1 s) (P := fun s => PF7_endOn l Q 8 [(0, .ref 0), (1, .int v1)] [] s) (T := fun t => Q (some (.int t.1)) t.2) st FU (q) t h hk9
  exact h9
def F7_endOn  (v1 : Int32) (q : SQ) : Option (Int32 × SQ) :=
  (F7_begins 7  q).bind (fun z1 => F7_endOn_8  v1 z1.2)
set_option maxHeartbeats 400000 in
theorem F7_endOn_ok (l : Launch)  {Q : Option Value → SQ → Prop} (v1 : Int32) (q : SQ) {res : Int32 × SQ} (h : F7_endOn  v1 q = some res) (hk9 : Q (some (.int res.1)) res.2) : PF7_endOn l Q 0 [(0, .ref 0), (1, .int v1)] [] q := by
  unfold F7_endOn at h
  refine sx_aload_n dX7_endOn_0 rfl rfl ?_
  refine sx_aload_n dX7_endOn_1 rfl rfl ?_
  refine sx_getR dX7_endOn_2 (hs := shM_0) (k9 := 14) (hf := rfl) cb_X7 ⟨by decide, rfl, gw_813⟩ ?_
  obtain ⟨z1, hz1, h⟩ := sx_bd h
  refine sx_callV (o := 0) (As := [.ref 7]) (rest := []) KSM (F7_begins_ck l 7 shM_7  q hz1) mi_X7_begins gw_795 rfl ⟨gw_797, gw_32⟩ shM_0 rfl rfl ⟨Nat.le_of_ble_eq_true rfl, Nat.le_of_ble_eq_true rfl⟩ (Nat.le_of_ble_eq_true rfl) dX7_endOn_5 rfl ?_
  exact F7_endOn_8_ok l  v1 z1.2 h hk9
theorem F7_endOn_ck (l : Launch)  (v1 : Int32) (q : SQ) {r : Int32 × SQ} (h : F7_endOn  v1 q = some r) : CK shM vwCl KM tfM l yX7_endOn cX7_endOn 2 ((some .int)) 5 130 [.ref 0, .int v1] q (some (.int r.1)) r.2 :=
  CK.of mi_X7_endOn (Nat.le_of_ble_eq_true rfl) (F7_endOn_ok l  v1 q h ⟨rfl, rfl⟩)
theorem mi_X7_end : sx_MI yX7_end cX7_end 2 ((some .int)) 1 := ⟨by decide, ⟨by decide, by decide, by decide +kernel⟩, gw_1012, gw_68⟩
abbrev PF7_end (l : Launch) (Q : Option Value → SQ → Prop) : Nat → List (Nat × Value) → List Value → SQ → Prop := XX shM vwCl KM tfM l RX7 cX7_end 2 ((some .int)) { frames := 6, cells := 0, slots := 0, locals := 151 } Q
def F7_end  (v1 : Int32) (q : SQ) : Option (Int32 × SQ) :=
  sx_let (sI q 0 0 (0 : Int32)) (fun q1 => (F7_isDay  v1 q1).bind (fun z2 => (if z2.1 = 0 then some ((-1 : Int32), z2.2) else (F7_endOn  v1 z2.2).bind (fun z3 => some (z3.1, z3.2)))))
set_option maxHeartbeats 400000 in
theorem F7_end_ok (l : Launch)  {Q : Option Value → SQ → Prop} (v1 : Int32) (q : SQ) {res : Int32 × SQ} (h : F7_end  v1 q = some res) (hk9 : Q (some (.int res.1)) res.2) : PF7_end l Q 0 [(0, .ref 0), (1, .int v1)] [] q := by
  unfold F7_end at h
  refine sx_aload_n dX7_end_0 rfl rfl ?_
  refine sx_iconst (v := (0 : Int32)) dX7_end_1 (by decide) ?_
  obtain ⟨q1, eq1, h⟩ := sx_lt h
  refine sx_putI dX7_end_2 (hs := shM_0) (k9 := 0) (hf := rfl) cb_X7 ⟨by decide, rfl, gw_799⟩ rfl (by decide) ?_
  refine sx_nmQ eq1 ?_
  refine sx_iload_n dX7_end_5 rfl rfl ?_
  obtain ⟨z2, hz2, h⟩ := sx_bd h
  refine sx_callS (As := [.int v1]) (rest := []) KSM (F7_isDay_ck l  v1 q1 hz2) mi_X7_isDay gw_943 rfl gw_944 ⟨Nat.le_of_ble_eq_true rfl, Nat.le_of_ble_eq_true rfl⟩ (Nat.le_of_ble_eq_true rfl) dX7_end_6 rfl ?_
  refine sx_if_eq (tgt := 20) dX7_end_9 (by decide) (fun c9 => ?_) (fun c9 => ?_)
  · replace h := sx_ip h c9
    refine sx_iconst (v := (-1 : Int32)) dX7_end_20 (by decide) ?_
    obtain rfl := Option.some.inj h
    exact sx_iret dX7_end_21 rfl hk9
  · replace h := sx_in h c9
    refine sx_aload_n dX7_end_12 rfl rfl ?_
    refine sx_iload_n dX7_end_13 rfl rfl ?_
    obtain ⟨z3, hz3, h⟩ := sx_bd h
    refine sx_callV (o := 0) (As := [.int v1]) (rest := []) KSM (F7_endOn_ck l  v1 z2.2 hz3) mi_X7_endOn gw_1013 rfl ⟨gw_1015, gw_51⟩ shM_0 rfl rfl ⟨Nat.le_of_ble_eq_true rfl, Nat.le_of_ble_eq_true rfl⟩ (Nat.le_of_ble_eq_true rfl) dX7_end_14 rfl ?_
    refine sx_goto (tgt := 21) dX7_end_17 (by decide) ?_
    obtain rfl := Option.some.inj h
    exact sx_iret dX7_end_21 rfl hk9
theorem F7_end_ck (l : Launch)  (v1 : Int32) (q : SQ) {r : Int32 × SQ} (h : F7_end  v1 q = some r) : CK shM vwCl KM tfM l yX7_end cX7_end 2 ((some .int)) 6 151 [.ref 0, .int v1] q (some (.int r.1)) r.2 :=
  CK.of mi_X7_end (Nat.le_of_ble_eq_true rfl) (F7_end_ok l  v1 q h ⟨rfl, rfl⟩)
theorem mi_X7_aside : sx_MI yX7_aside cX7_aside 3 (none) 1 := ⟨by decide, ⟨by decide, by decide, by decide +kernel⟩, gw_1024, gw_68⟩
abbrev PF7_aside (l : Launch) (Q : Option Value → SQ → Prop) : Nat → List (Nat × Value) → List Value → SQ → Prop := XX shM vwCl KM tfM l RX7 cX7_aside 3 (none) { frames := 0, cells := 0, slots := 0, locals := 0 } Q
def F7_aside_39  (v1 : Int32) (v2 : Int32) (q : SQ) : Option ((Int32 × SQ) ⊕ (Unit × SQ)) :=
  sx_let (v2 + (1 : Int32)) (fun x2 => some (.inl (x2, q)))
set_option maxHeartbeats 400000 in
theorem F7_aside_39_ok (l : Launch)  {Q : Option Value → SQ → Prop} (v1 : Int32) (v2 : Int32) (q : SQ) {res : (Int32 × SQ) ⊕ (Unit × SQ)} (h : F7_aside_39  v1 v2 q = some res) (hk9 : (∀ a3, res = .inl a3 → PF7_aside l Q 2 [(0, .ref 0), (1, .int v1), (2, .int a3.1)] [] a3.2) ∧ (∀ b4, res = .inr b4 → Q none b4.2)) : PF7_aside l Q 39 [(0, .ref 0), (1, .int v1), (2, .int v2)] [] q := by
  unfold F7_aside_39 at h
  obtain ⟨x2, ex2, h⟩ := sx_lt h
  refine sx_iinc (k9 := 2) (v := x2) (ls2 := [(2, .int x2), (0, .ref 0), (1, .int v1)]) dX7_aside_39 rfl (by rw [ex2, sx_ofI1]) (by decide) rfl ?_
  refine sx_goto (tgt := 2) dX7_aside_42 (by decide) ?_
  refine sx_locs [1, 2, 0] rfl ?_
  exact hk9.1 (x2, q) (Option.some.inj h).symm
def F7_aside_2b  (v1 : Int32) (v2 : Int32) (q : SQ) : Option ((Int32 × SQ) ⊕ (Unit × SQ)) :=
  (if (42 : Int32) ≤ v2 then some (.inr ((), q)) else (if v1 = 0 then (if sx_ix v2 84 = true then (if sx_ix v2 84 = true then sx_let (sI q 2 v2.toNatClampNeg (gI q 8 v2.toNatClampNeg)) (fun q1 => F7_aside_39  v1 v2 q1) else none) else none) else (if sx_ix v2 84 = true then (if sx_ix v2 84 = true then sx_let (sI q 8 v2.toNatClampNeg (gI q 2 v2.toNatClampNeg)) (fun q5 => F7_aside_39  v1 v2 q5) else none) else none)))
set_option maxHeartbeats 400000 in
theorem F7_aside_2b_ok (l : Launch)  {Q : Option Value → SQ → Prop} (v1 : Int32) (v2 : Int32) (q : SQ) {res : (Int32 × SQ) ⊕ (Unit × SQ)} (h : F7_aside_2b  v1 v2 q = some res) (hk9 : (∀ a6, res = .inl a6 → PF7_aside l Q 2 [(0, .ref 0), (1, .int v1), (2, .int a6.1)] [] a6.2) ∧ (∀ b7, res = .inr b7 → Q none b7.2)) : PF7_aside l Q 2 [(0, .ref 0), (1, .int v1), (2, .int v2)] [] q := by
  unfold F7_aside_2b at h
  refine sx_iload_n dX7_aside_2 rfl rfl ?_
  refine sx_bipush (v := (42 : Int32)) dX7_aside_3 (by decide) ?_
  refine sx_icmp_ge (tgt := 45) dX7_aside_5 (by decide) (fun c9 => ?_) (fun c9 => ?_)
  · replace h := sx_ip h c9
    have hk9 := hk9.2 _ (Option.some.inj h).symm
    exact sx_vret dX7_aside_45 rfl hk9
  · replace h := sx_in h c9
    refine sx_iload_n dX7_aside_8 rfl rfl ?_
    refine sx_if_eq (tgt := 27) dX7_aside_9 (by decide) (fun c9 => ?_) (fun c9 => ?_)
    · replace h := sx_ip h c9
      refine sx_aload_n dX7_aside_27 rfl rfl ?_
      refine sx_getR dX7_aside_28 (hs := shM_0) (k9 := 9) (hf := rfl) cb_X7 ⟨by decide, rfl, gw_808⟩ ?_
      refine sx_iload_n dX7_aside_31 rfl rfl ?_
      refine sx_aload_n dX7_aside_32 rfl rfl ?_
      refine sx_getR dX7_aside_33 (hs := shM_0) (k9 := 15) (hf := rfl) cb_X7 ⟨by decide, rfl, gw_814⟩ ?_
      refine sx_iload_n dX7_aside_36 rfl rfl ?_
      obtain ⟨g9, h⟩ := sx_gd h
      refine sx_iald dX7_aside_37 shM_8 (fun _ _ => rfl) (sx_ix_in g9) ?_
      obtain ⟨g9, h⟩ := sx_gd h
      obtain ⟨q1, eq1, h⟩ := sx_lt h
      refine sx_iast dX7_aside_38 shM_2 (fun _ _ => rfl) (sx_ix_in g9) ?_
      refine sx_nmQ eq1 ?_
      exact F7_aside_39_ok l  v1 v2 q1 h hk9
    · replace h := sx_in h c9
      refine sx_aload_n dX7_aside_12 rfl rfl ?_
      refine sx_getR dX7_aside_13 (hs := shM_0) (k9 := 15) (hf := rfl) cb_X7 ⟨by decide, rfl, gw_814⟩ ?_
      refine sx_iload_n dX7_aside_16 rfl rfl ?_
      refine sx_aload_n dX7_aside_17 rfl rfl ?_
      refine sx_getR dX7_aside_18 (hs := shM_0) (k9 := 9) (hf := rfl) cb_X7 ⟨by decide, rfl, gw_808⟩ ?_
      refine sx_iload_n dX7_aside_21 rfl rfl ?_
      obtain ⟨g9, h⟩ := sx_gd h
      refine sx_iald dX7_aside_22 shM_2 (fun _ _ => rfl) (sx_ix_in g9) ?_
      obtain ⟨g9, h⟩ := sx_gd h
      obtain ⟨q5, eq5, h⟩ := sx_lt h
      refine sx_iast dX7_aside_23 shM_8 (fun _ _ => rfl) (sx_ix_in g9) ?_
      refine sx_nmQ eq5 ?_
      refine sx_goto (tgt := 39) dX7_aside_24 (by decide) ?_
      exact F7_aside_39_ok l  v1 v2 q5 h hk9
def F7_aside_2  (v1 : Int32) (v2 : Int32) (q : SQ) : Option (Unit × SQ) := sx_loop (fun s8 => F7_aside_2b  v1 s8.1 s8.2) FU (v2, q)
set_option maxHeartbeats 400000 in
theorem F7_aside_2_ok (l : Launch)  {Q : Option Value → SQ → Prop} (v1 : Int32) (v2 : Int32) (q : SQ) {t : Unit × SQ} (h : F7_aside_2  v1 v2 q = some t) (hk9 : Q none t.2) : PF7_aside l Q 2 [(0, .ref 0), (1, .int v1), (2, .int v2)] [] q := by
  unfold F7_aside_2 at h
  have st : ∀ (s : Int32 × SQ) (res : (Int32 × SQ) ⊕ (Unit × SQ)), F7_aside_2b  v1 s.1 s.2 = some res → (∀ s2, res = .inl s2 → PF7_aside l Q 2 [(0, .ref 0), (1, .int v1), (2, .int s2.1)] [] s2.2) → (∀ t2, res = .inr t2 → Q none t2.2) → PF7_aside l Q 2 [(0, .ref 0), (1, .int v1), (2, .int s.1)] [] s.2 :=
    fun s res hb hi ho => F7_aside_2b_ok l  v1 s.1 s.2 hb ⟨hi, ho⟩
  have h9 : PF7_aside l Q 2 [(0, .ref 0), (1, .int v1), (2, .int v2)] [] q := sx_lp (body := fun s => F7_aside_2b  v1 s.1 s.2) (P := fun s => PF7_aside l Q 2 [(0, .ref 0), (1, .int v1), (2, .int s.1)] [] s.2) (T := fun t => Q none t.2) st FU (v2, q) t h hk9
  exact h9
def F7_aside  (v1 : Int32) (q : SQ) : Option (Unit × SQ) :=
  F7_aside_2  v1 (0 : Int32) q
set_option maxHeartbeats 400000 in
theorem F7_aside_ok (l : Launch)  {Q : Option Value → SQ → Prop} (v1 : Int32) (q : SQ) {res : Unit × SQ} (h : F7_aside  v1 q = some res) (hk9 : Q none res.2) : PF7_aside l Q 0 [(0, .ref 0), (1, .int v1)] [] q := by
  unfold F7_aside at h
  refine sx_iconst (v := (0 : Int32)) dX7_aside_0 (by decide) ?_
  refine sx_istore_n (ls2 := [(2, .int (0 : Int32)), (0, .ref 0), (1, .int v1)]) dX7_aside_1 rfl (by decide) rfl ?_
  refine sx_locs [1, 2, 0] rfl ?_
  exact F7_aside_2_ok l  v1 (0 : Int32) q h hk9
theorem F7_aside_ck (l : Launch)  (v1 : Int32) (q : SQ) {r : Unit × SQ} (h : F7_aside  v1 q = some r) : CK shM vwCl KM tfM l yX7_aside cX7_aside 3 (none) 0 0 [.ref 0, .int v1] q none r.2 :=
  CK.of mi_X7_aside (Nat.le_of_ble_eq_true rfl) (F7_aside_ok l  v1 q h ⟨rfl, rfl⟩)
theorem mi_X7_best : sx_MI yX7_best cX7_best 10 ((some .int)) 3 := ⟨by decide, ⟨by decide, by decide, by decide +kernel⟩, gw_1020, gw_68⟩
abbrev PF7_best (l : Launch) (Q : Option Value → SQ → Prop) : Nat → List (Nat × Value) → List Value → SQ → Prop := XX shM vwCl KM tfM l RX7 cX7_best 10 ((some .int)) { frames := 6, cells := 0, slots := 0, locals := 151 } Q
def F7_best_38   (q : SQ) : Option (Int32 × SQ) :=
  some ((-1 : Int32), q)
set_option maxHeartbeats 400000 in
theorem F7_best_38_ok (l : Launch)  {Q : Option Value → SQ → Prop}  (q : SQ) {res : Int32 × SQ} (h : F7_best_38   q = some res) (hk9 : Q (some (.int res.1)) res.2) : PF7_best l Q 38 [] [] q := by
  unfold F7_best_38 at h
  refine sx_iconst (v := (-1 : Int32)) dX7_best_38 (by decide) ?_
  obtain rfl := Option.some.inj h
  exact sx_iret dX7_best_39 rfl hk9
def F7_best_186  (v1 : Int32) (v2 : Int32) (v3 : Int32) (v4 : Int32) (v5 : Int32) (v7 : Int32) (v8 : Int32) (s0 : Int32) (q : SQ) : Option ((Int32 × Int32 × Int32 × Int32 × SQ) ⊕ ((Int32 × Int32 × Int32 × Int32 × SQ) ⊕ (Int32 × SQ))) :=
  sx_let (v8 + (1 : Int32)) (fun x13 => some (.inl (v4, v5, s0, x13, q)))
set_option maxHeartbeats 400000 in
theorem F7_best_186_ok (l : Launch)  {Q : Option Value → SQ → Prop} (v1 : Int32) (v2 : Int32) (v3 : Int32) (v4 : Int32) (v5 : Int32) (v7 : Int32) (v8 : Int32) (s0 : Int32) (q : SQ) {res : (Int32 × Int32 × Int32 × Int32 × SQ) ⊕ ((Int32 × Int32 × Int32 × Int32 × SQ) ⊕ (Int32 × SQ))} (h : F7_best_186  v1 v2 v3 v4 v5 v7 v8 s0 q = some res) (hk9 : (∀ a14, res = .inl a14 → PF7_best l Q 103 [(0, .ref 0), (1, .int v1), (2, .int v2), (3, .int v3), (4, .int a14.1), (5, .int a14.2.1), (6, .int a14.2.2.1), (7, .int v7), (8, .int a14.2.2.2.1)] [] a14.2.2.2.2) ∧ (∀ b15, res = .inr b15 → (∀ a16, b15 = .inl a16 → PF7_best l Q 87 [(0, .ref 0), (1, .int v1), (2, .int v2), (3, .int v3), (4, .int a16.1), (5, .int a16.2.1), (6, .int a16.2.2.1), (7, .int a16.2.2.2.1)] [] a16.2.2.2.2) ∧ (∀ b17, b15 = .inr b17 → Q (some (.int b17.1)) b17.2))) : PF7_best l Q 186 [(0, .ref 0), (1, .int v1), (2, .int v2), (3, .int v3), (4, .int v4), (5, .int v5), (7, .int v7), (8, .int v8)] [.int s0] q := by
  unfold F7_best_186 at h
  refine sx_istore (ls2 := [(6, .int s0), (0, .ref 0), (1, .int v1), (2, .int v2), (3, .int v3), (4, .int v4), (5, .int v5), (7, .int v7), (8, .int v8)]) dX7_best_186 (by decide) rfl ?_
  obtain ⟨x13, ex13, h⟩ := sx_lt h
  refine sx_iinc (k9 := 8) (v := x13) (ls2 := [(8, .int x13), (6, .int s0), (0, .ref 0), (1, .int v1), (2, .int v2), (3, .int v3), (4, .int v4), (5, .int v5), (7, .int v7)]) dX7_best_188 rfl (by rw [ex13, sx_ofI1]) (by decide) rfl ?_
  refine sx_goto (tgt := 103) dX7_best_191 (by decide) ?_
  refine sx_locs [2, 3, 4, 5, 6, 7, 1, 8, 0] rfl ?_
  exact hk9.1 (v4, v5, s0, x13, q) (Option.some.inj h).symm
def F7_best_170  (v1 : Int32) (v2 : Int32) (v3 : Int32) (v4 : Int32) (v6 : Int32) (v7 : Int32) (v8 : Int32) (v9 : Int32) (s0 : Int32) (q : SQ) : Option ((Int32 × Int32 × Int32 × Int32 × SQ) ⊕ ((Int32 × Int32 × Int32 × Int32 × SQ) ⊕ (Int32 × SQ))) :=
  (if v9 ≤ v6 then F7_best_186  v1 v2 v3 v4 s0 v7 v8 v6 q else F7_best_186  v1 v2 v3 v4 s0 v7 v8 v9 q)
set_option maxHeartbeats 400000 in
theorem F7_best_170_ok (l : Launch)  {Q : Option Value → SQ → Prop} (v1 : Int32) (v2 : Int32) (v3 : Int32) (v4 : Int32) (v6 : Int32) (v7 : Int32) (v8 : Int32) (v9 : Int32) (s0 : Int32) (q : SQ) {res : (Int32 × Int32 × Int32 × Int32 × SQ) ⊕ ((Int32 × Int32 × Int32 × Int32 × SQ) ⊕ (Int32 × SQ))} (h : F7_best_170  v1 v2 v3 v4 v6 v7 v8 v9 s0 q = some res) (hk9 : (∀ a18, res = .inl a18 → PF7_best l Q 103 [(0, .ref 0), (1, .int v1), (2, .int v2), (3, .int v3), (4, .int a18.1), (5, .int a18.2.1), (6, .int a18.2.2.1), (7, .int v7), (8, .int a18.2.2.2.1)] [] a18.2.2.2.2) ∧ (∀ b19, res = .inr b19 → (∀ a20, b19 = .inl a20 → PF7_best l Q 87 [(0, .ref 0), (1, .int v1), (2, .int v2), (3, .int v3), (4, .int a20.1), (5, .int a20.2.1), (6, .int a20.2.2.1), (7, .int a20.2.2.2.1)] [] a20.2.2.2.2) ∧ (∀ b21, b19 = .inr b21 → Q (some (.int b21.1)) b21.2))) : PF7_best l Q 170 [(0, .ref 0), (1, .int v1), (2, .int v2), (3, .int v3), (4, .int v4), (6, .int v6), (7, .int v7), (8, .int v8), (9, .int v9)] [.int s0] q := by
  unfold F7_best_170 at h
  refine sx_istore (ls2 := [(5, .int s0), (0, .ref 0), (1, .int v1), (2, .int v2), (3, .int v3), (4, .int v4), (6, .int v6), (7, .int v7), (8, .int v8), (9, .int v9)]) dX7_best_170 (by decide) rfl ?_
  refine sx_iload dX7_best_172 rfl ?_
  refine sx_iload dX7_best_174 rfl ?_
  refine sx_icmp_le (tgt := 184) dX7_best_176 (by decide) (fun c9 => ?_) (fun c9 => ?_)
  · replace h := sx_ip h c9
    refine sx_iload dX7_best_184 rfl ?_
    refine sx_locs [1, 2, 3, 4, 5, 0, 7, 8] rfl ?_
    exact F7_best_186_ok l  v1 v2 v3 v4 s0 v7 v8 v6 q h hk9
  · replace h := sx_in h c9
    refine sx_iload dX7_best_179 rfl ?_
    refine sx_goto (tgt := 186) dX7_best_181 (by decide) ?_
    refine sx_locs [1, 2, 3, 4, 5, 0, 7, 8] rfl ?_
    exact F7_best_186_ok l  v1 v2 v3 v4 s0 v7 v8 v9 q h hk9
def F7_best_154  (v1 : Int32) (v2 : Int32) (v3 : Int32) (v5 : Int32) (v6 : Int32) (v7 : Int32) (v8 : Int32) (v9 : Int32) (s0 : Int32) (q : SQ) : Option ((Int32 × Int32 × Int32 × Int32 × SQ) ⊕ ((Int32 × Int32 × Int32 × Int32 × SQ) ⊕ (Int32 × SQ))) :=
  (if v9 ≤ v6 then F7_best_170  v1 v2 v3 s0 v6 v7 v8 v9 v5 q else F7_best_170  v1 v2 v3 s0 v6 v7 v8 v9 v8 q)
set_option maxHeartbeats 400000 in
theorem F7_best_154_ok (l : Launch)  {Q : Option Value → SQ → Prop} (v1 : Int32) (v2 : Int32) (v3 : Int32) (v5 : Int32) (v6 : Int32) (v7 : Int32) (v8 : Int32) (v9 : Int32) (s0 : Int32) (q : SQ) {res : (Int32 × Int32 × Int32 × Int32 × SQ) ⊕ ((Int32 × Int32 × Int32 × Int32 × SQ) ⊕ (Int32 × SQ))} (h : F7_best_154  v1 v2 v3 v5 v6 v7 v8 v9 s0 q = some res) (hk9 : (∀ a22, res = .inl a22 → PF7_best l Q 103 [(0, .ref 0), (1, .int v1), (2, .int v2), (3, .int v3), (4, .int a22.1), (5, .int a22.2.1), (6, .int a22.2.2.1), (7, .int v7), (8, .int a22.2.2.2.1)] [] a22.2.2.2.2) ∧ (∀ b23, res = .inr b23 → (∀ a24, b23 = .inl a24 → PF7_best l Q 87 [(0, .ref 0), (1, .int v1), (2, .int v2), (3, .int v3), (4, .int a24.1), (5, .int a24.2.1), (6, .int a24.2.2.1), (7, .int a24.2.2.2.1)] [] a24.2.2.2.2) ∧ (∀ b25, b23 = .inr b25 → Q (some (.int b25.1)) b25.2))) : PF7_best l Q 154 [(0, .ref 0), (1, .int v1), (2, .int v2), (3, .int v3), (5, .int v5), (6, .int v6), (7, .int v7), (8, .int v8), (9, .int v9)] [.int s0] q := by
  unfold F7_best_154 at h
  refine sx_istore (ls2 := [(4, .int s0), (0, .ref 0), (1, .int v1), (2, .int v2), (3, .int v3), (5, .int v5), (6, .int v6), (7, .int v7), (8, .int v8), (9, .int v9)]) dX7_best_154 (by decide) rfl ?_
  refine sx_iload dX7_best_156 rfl ?_
  refine sx_iload dX7_best_158 rfl ?_
  refine sx_icmp_le (tgt := 168) dX7_best_160 (by decide) (fun c9 => ?_) (fun c9 => ?_)
  · replace h := sx_ip h c9
    refine sx_iload dX7_best_168 rfl ?_
    refine sx_locs [1, 2, 3, 4, 0, 6, 7, 8, 9] rfl ?_
    exact F7_best_170_ok l  v1 v2 v3 s0 v6 v7 v8 v9 v5 q h hk9
  · replace h := sx_in h c9
    refine sx_iload dX7_best_163 rfl ?_
    refine sx_goto (tgt := 170) dX7_best_165 (by decide) ?_
    refine sx_locs [1, 2, 3, 4, 0, 6, 7, 8, 9] rfl ?_
    exact F7_best_170_ok l  v1 v2 v3 s0 v6 v7 v8 v9 v8 q h hk9
def F7_best_103b  (v1 : Int32) (v2 : Int32) (v3 : Int32) (v4 : Int32) (v5 : Int32) (v6 : Int32) (v7 : Int32) (v8 : Int32) (q : SQ) : Option ((Int32 × Int32 × Int32 × Int32 × SQ) ⊕ ((Int32 × Int32 × Int32 × Int32 × SQ) ⊕ (Int32 × SQ))) :=
  (if v2 < v8 then sx_let (v7 + (1 : Int32)) (fun x8 => some (.inr (.inl (v4, v5, v6, x8, q)))) else (if sx_ix (((24 : Int32) + ((3 : Int32) * v1)) + (2 : Int32)) 84 = true then sx_let (sI q 2 (((24 : Int32) + ((3 : Int32) * v1)) + (2 : Int32)).toNatClampNeg v7) (fun q9 => sx_let (sI q9 2 37 v8) (fun q10 => (F7_endOn  v2 q10).bind (fun z11 => sx_let z11.1 (fun x12 => (if x12 ≤ v6 then F7_best_154  v1 v2 v3 v5 v6 v7 v8 x12 v4 z11.2 else F7_best_154  v1 v2 v3 v5 v6 v7 v8 x12 v7 z11.2))))) else none))
set_option maxHeartbeats 400000 in
theorem F7_best_103b_ok (l : Launch)  {Q : Option Value → SQ → Prop} (v1 : Int32) (v2 : Int32) (v3 : Int32) (v4 : Int32) (v5 : Int32) (v6 : Int32) (v7 : Int32) (v8 : Int32) (q : SQ) {res : (Int32 × Int32 × Int32 × Int32 × SQ) ⊕ ((Int32 × Int32 × Int32 × Int32 × SQ) ⊕ (Int32 × SQ))} (h : F7_best_103b  v1 v2 v3 v4 v5 v6 v7 v8 q = some res) (hk9 : (∀ a26, res = .inl a26 → PF7_best l Q 103 [(0, .ref 0), (1, .int v1), (2, .int v2), (3, .int v3), (4, .int a26.1), (5, .int a26.2.1), (6, .int a26.2.2.1), (7, .int v7), (8, .int a26.2.2.2.1)] [] a26.2.2.2.2) ∧ (∀ b27, res = .inr b27 → (∀ a28, b27 = .inl a28 → PF7_best l Q 87 [(0, .ref 0), (1, .int v1), (2, .int v2), (3, .int v3), (4, .int a28.1), (5, .int a28.2.1), (6, .int a28.2.2.1), (7, .int a28.2.2.2.1)] [] a28.2.2.2.2) ∧ (∀ b29, b27 = .inr b29 → Q (some (.int b29.1)) b29.2))) : PF7_best l Q 103 [(0, .ref 0), (1, .int v1), (2, .int v2), (3, .int v3), (4, .int v4), (5, .int v5), (6, .int v6), (7, .int v7), (8, .int v8)] [] q := by
  unfold F7_best_103b at h
  refine sx_iload dX7_best_103 rfl ?_
  refine sx_iload_n dX7_best_105 rfl rfl ?_
  refine sx_icmp_gt (tgt := 194) dX7_best_106 (by decide) (fun c9 => ?_) (fun c9 => ?_)
  · replace h := sx_ip h c9
    obtain ⟨x8, ex8, h⟩ := sx_lt h
    refine sx_iinc (k9 := 7) (v := x8) (ls2 := [(7, .int x8), (0, .ref 0), (1, .int v1), (2, .int v2), (3, .int v3), (4, .int v4), (5, .int v5), (6, .int v6), (8, .int v8)]) dX7_best_194 rfl (by rw [ex8, sx_ofI1]) (by decide) rfl ?_
    refine sx_goto (tgt := 87) dX7_best_197 (by decide) ?_
    have hk9 := hk9.2 _ (Option.some.inj h).symm
    have h : (some (.inl (v4, v5, v6, x8, q)) : Option ((Int32 × Int32 × Int32 × Int32 × SQ) ⊕ (Int32 × SQ))) = some (.inl (v4, v5, v6, x8, q)) := rfl
    refine sx_locs [1, 2, 3, 4, 5, 6, 7, 0] rfl ?_
    exact hk9.1 (v4, v5, v6, x8, q) (Option.some.inj h).symm
  · replace h := sx_in h c9
    refine sx_aload_n dX7_best_109 rfl rfl ?_
    refine sx_getR dX7_best_110 (hs := shM_0) (k9 := 9) (hf := rfl) cb_X7 ⟨by decide, rfl, gw_808⟩ ?_
    refine sx_bipush (v := (24 : Int32)) dX7_best_113 (by decide) ?_
    refine sx_iconst (v := (3 : Int32)) dX7_best_115 (by decide) ?_
    refine sx_iload_n dX7_best_116 rfl rfl ?_
    refine sx_imul dX7_best_117 ?_
    refine sx_iadd dX7_best_118 ?_
    refine sx_iconst (v := (2 : Int32)) dX7_best_119 (by decide) ?_
    refine sx_iadd dX7_best_120 ?_
    refine sx_iload dX7_best_121 rfl ?_
    obtain ⟨g9, h⟩ := sx_gd h
    obtain ⟨q9, eq9, h⟩ := sx_lt h
    refine sx_iast dX7_best_123 shM_2 (fun _ _ => rfl) (sx_ix_in g9) ?_
    refine sx_nmQ eq9 ?_
    refine sx_aload_n dX7_best_124 rfl rfl ?_
    refine sx_getR dX7_best_125 (hs := shM_0) (k9 := 9) (hf := rfl) cb_X7 ⟨by decide, rfl, gw_808⟩ ?_
    refine sx_bipush (v := (37 : Int32)) dX7_best_128 (by decide) ?_
    refine sx_iload dX7_best_130 rfl ?_
    obtain ⟨q10, eq10, h⟩ := sx_lt h
    refine sx_iastC (j9 := 37) dX7_best_132 shM_2 (fun _ _ => rfl) (by decide) (by decide) ?_
    refine sx_nmQ eq10 ?_
    refine sx_aload_n dX7_best_133 rfl rfl ?_
    refine sx_iload_n dX7_best_134 rfl rfl ?_
    obtain ⟨z11, hz11, h⟩ := sx_bd h
    refine sx_callV (o := 0) (As := [.int v2]) (rest := []) KSM (F7_endOn_ck l  v2 q10 hz11) mi_X7_endOn gw_1013 rfl ⟨gw_1015, gw_51⟩ shM_0 rfl rfl ⟨Nat.le_of_ble_eq_true rfl, Nat.le_of_ble_eq_true rfl⟩ (Nat.le_of_ble_eq_true rfl) dX7_best_135 rfl ?_
    obtain ⟨x12, ex12, h⟩ := sx_lt h
    refine sx_nmI ex12 ?_
    refine sx_istore (ls2 := [(9, .int x12), (0, .ref 0), (1, .int v1), (2, .int v2), (3, .int v3), (4, .int v4), (5, .int v5), (6, .int v6), (7, .int v7), (8, .int v8)]) dX7_best_138 (by decide) rfl ?_
    refine sx_iload dX7_best_140 rfl ?_
    refine sx_iload dX7_best_142 rfl ?_
    refine sx_icmp_le (tgt := 152) dX7_best_144 (by decide) (fun c9 => ?_) (fun c9 => ?_)
    · replace h := sx_ip h c9
      refine sx_iload dX7_best_152 rfl ?_
      refine sx_locs [1, 2, 3, 4, 6, 7, 8, 9, 0] rfl ?_
      exact F7_best_154_ok l  v1 v2 v3 v5 v6 v7 v8 x12 v4 z11.2 h hk9
    · replace h := sx_in h c9
      refine sx_iload dX7_best_147 rfl ?_
      refine sx_goto (tgt := 154) dX7_best_149 (by decide) ?_
      refine sx_locs [1, 2, 3, 4, 6, 7, 8, 9, 0] rfl ?_
      exact F7_best_154_ok l  v1 v2 v3 v5 v6 v7 v8 x12 v7 z11.2 h hk9
def F7_best_103  (v1 : Int32) (v2 : Int32) (v3 : Int32) (v4 : Int32) (v5 : Int32) (v6 : Int32) (v7 : Int32) (v8 : Int32) (q : SQ) : Option ((Int32 × Int32 × Int32 × Int32 × SQ) ⊕ (Int32 × SQ)) := sx_loop (fun s30 => F7_best_103b  v1 v2 v3 s30.1 s30.2.1 s30.2.2.1 v7 s30.2.2.2.1 s30.2.2.2.2) FU (v4, v5, v6, v8, q)
set_option maxHeartbeats 400000 in
theorem F7_best_103_ok (l : Launch)  {Q : Option Value → SQ → Prop} (v1 : Int32) (v2 : Int32) (v3 : Int32) (v4 : Int32) (v5 : Int32) (v6 : Int32) (v7 : Int32) (v8 : Int32) (q : SQ) {t : (Int32 × Int32 × Int32 × Int32 × SQ) ⊕ (Int32 × SQ)} (h : F7_best_103  v1 v2 v3 v4 v5 v6 v7 v8 q = some t) (hk9 : (∀ a31, t = .inl a31 → PF7_best l Q 87 [(0, .ref 0), (1, .int v1), (2, .int v2), (3, .int v3), (4, .int a31.1), (5, .int a31.2.1), (6, .int a31.2.2.1), (7, .int a31.2.2.2.1)] [] a31.2.2.2.2) ∧ (∀ b32, t = .inr b32 → Q (some (.int b32.1)) b32.2)) : PF7_best l Q 103 [(0, .ref 0), (1, .int v1), (2, .int v2), (3, .int v3), (4, .int v4), (5, .int v5), (6, .int v6), (7, .int v7), (8, .int v8)] [] q := by
  unfold F7_best_103 at h
  have st : ∀ (s : Int32 × Int32 × Int32 × Int32 × SQ) (res : (Int32 × Int32 × Int32 × Int32 × SQ) ⊕ ((Int32 × Int32 × Int32 × Int32 × SQ) ⊕ (Int32 × SQ))), F7_best_103b  v1 v2 v3 s.1 s.2.1 s.2.2.1 v7 s.2.2.2.1 s.2.2.2.2 = some res → (∀ s2, res = .inl s2 → PF7_best l Q 103 [(0, .ref 0), (1, .int v1), (2, .int v2), (3, .int v3), (4, .int s2.1), (5, .int s2.2.1), (6, .int s2.2.2.1), (7, .int v7), (8, .int s2.2.2.2.1)] [] s2.2.2.2.2) → (∀ t2, res = .inr t2 → (∀ a33, t2 = .inl a33 → PF7_best l Q 87 [(0, .ref 0), (1, .int v1), (2, .int v2), (3, .int v3), (4, .int a33.1), (5, .int a33.2.1), (6, .int a33.2.2.1), (7, .int a33.2.2.2.1)] [] a33.2.2.2.2) ∧ (∀ b34, t2 = .inr b34 → Q (some (.int b34.1)) b34.2)) → PF7_best l Q 103 [(0, .ref 0), (1, .int v1), (2, .int v2), (3, .int v3), (4, .int s.1), (5, .int s.2.1), (6, .int s.2.2.1), (7, .int v7), (8, .int s.2.2.2.1)] [] s.2.2.2.2 :=
    fun s res hb hi ho => F7_best_103b_ok l  v1 v2 v3 s.1 s.2.1 s.2.2.1 v7 s.2.2.2.1 s.2.2.2.2 hb ⟨hi, ho⟩
  have h9 : PF7_best l Q 103 [(0, .ref 0), (1, .int v1), (2, .int v2), (3, .int v3), (4, .int v4), (5, .int v5), (6, .int v6), (7, .int v7), (8, .int v8)] [] q := sx_lp (body := fun s => F7_best_103b  v1 v2 v3 s.1 s.2.1 s.2.2.1 v7 s.2.2.2.1 s.2.2.2.2) (P := fun s => PF7_best l Q 103 [(0, .ref 0), (1, .int v1), (2, .int v2), (3, .int v3), (4, .int s.1), (5, .int s.2.1), (6, .int s.2.2.1), (7, .int v7), (8, .int s.2.2.2.1)] [] s.2.2.2.2) (T := fun t => (∀ a35, t = .inl a35 → PF7_best l Q 87 [(0, .ref 0), (1, .int v1), (2, .int v2), (3, .int v3), (4, .int a35.1), (5, .int a35.2.1), (6, .int a35.2.2.1), (7, .int a35.2.2.2.1)] [] a35.2.2.2.2) ∧ (∀ b36, t = .inr b36 → Q (some (.int b36.1)) b36.2)) st FU (v4, v5, v6, v8, q) t h hk9
  exact h9
def F7_best_87b  (v1 : Int32) (v2 : Int32) (v3 : Int32) (v4 : Int32) (v5 : Int32) (v6 : Int32) (v7 : Int32) (q : SQ) : Option ((Int32 × Int32 × Int32 × Int32 × SQ) ⊕ (Int32 × SQ)) :=
  (if (10 : Int32) ≤ v7 then (F7_aside  (0 : Int32) q).bind (fun z6 => (if v3 = 0 then some (.inr (v4, z6.2)) else (if v3 = (1 : Int32) then some (.inr (v5, z6.2)) else some (.inr (v6, z6.2))))) else sx_let (gI q 2 36) (fun x7 => F7_best_103  v1 v2 v3 v4 v5 v6 v7 x7 q))
set_option maxHeartbeats 400000 in
theorem F7_best_87b_ok (l : Launch)  {Q : Option Value → SQ → Prop} (v1 : Int32) (v2 : Int32) (v3 : Int32) (v4 : Int32) (v5 : Int32) (v6 : Int32) (v7 : Int32) (q : SQ) {res : (Int32 × Int32 × Int32 × Int32 × SQ) ⊕ (Int32 × SQ)} (h : F7_best_87b  v1 v2 v3 v4 v5 v6 v7 q = some res) (hk9 : (∀ a37, res = .inl a37 → PF7_best l Q 87 [(0, .ref 0), (1, .int v1), (2, .int v2), (3, .int v3), (4, .int a37.1), (5, .int a37.2.1), (6, .int a37.2.2.1), (7, .int a37.2.2.2.1)] [] a37.2.2.2.2) ∧ (∀ b38, res = .inr b38 → Q (some (.int b38.1)) b38.2)) : PF7_best l Q 87 [(0, .ref 0), (1, .int v1), (2, .int v2), (3, .int v3), (4, .int v4), (5, .int v5), (6, .int v6), (7, .int v7)] [] q := by
  unfold F7_best_87b at h
  refine sx_iload dX7_best_87 rfl ?_
  refine sx_bipush (v := (10 : Int32)) dX7_best_89 (by decide) ?_
  refine sx_icmp_ge (tgt := 200) dX7_best_91 (by decide) (fun c9 => ?_) (fun c9 => ?_)
  · replace h := sx_ip h c9
    refine sx_aload_n dX7_best_200 rfl rfl ?_
    refine sx_iconst (v := (0 : Int32)) dX7_best_201 (by decide) ?_
    obtain ⟨z6, hz6, h⟩ := sx_bd h
    refine sx_callV (o := 0) (As := [.int (0 : Int32)]) (rest := []) KSM (F7_aside_ck l  (0 : Int32) q hz6) mi_X7_aside gw_1021 rfl ⟨gw_1023, gw_52⟩ shM_0 rfl rfl ⟨Nat.le_of_ble_eq_true rfl, Nat.le_of_ble_eq_true rfl⟩ (Nat.le_of_ble_eq_true rfl) dX7_best_202 rfl ?_
    refine sx_iload_n dX7_best_205 rfl rfl ?_
    refine sx_if_ne (tgt := 214) dX7_best_206 (by decide) (fun c9 => ?_) (fun c9 => ?_)
    · replace h := sx_in h c9
      refine sx_iload_n dX7_best_214 rfl rfl ?_
      refine sx_iconst (v := (1 : Int32)) dX7_best_215 (by decide) ?_
      refine sx_icmp_ne (tgt := 224) dX7_best_216 (by decide) (fun c9 => ?_) (fun c9 => ?_)
      · replace h := sx_in h c9
        refine sx_iload dX7_best_224 rfl ?_
        have hk9 := hk9.2 _ (Option.some.inj h).symm
        exact sx_iret dX7_best_226 rfl hk9
      · replace h := sx_ip h c9
        refine sx_iload dX7_best_219 rfl ?_
        refine sx_goto (tgt := 226) dX7_best_221 (by decide) ?_
        have hk9 := hk9.2 _ (Option.some.inj h).symm
        exact sx_iret dX7_best_226 rfl hk9
    · replace h := sx_ip h c9
      refine sx_iload dX7_best_209 rfl ?_
      refine sx_goto (tgt := 226) dX7_best_211 (by decide) ?_
      have hk9 := hk9.2 _ (Option.some.inj h).symm
      exact sx_iret dX7_best_226 rfl hk9
  · replace h := sx_in h c9
    refine sx_aload_n dX7_best_94 rfl rfl ?_
    refine sx_getR dX7_best_95 (hs := shM_0) (k9 := 9) (hf := rfl) cb_X7 ⟨by decide, rfl, gw_808⟩ ?_
    refine sx_bipush (v := (36 : Int32)) dX7_best_98 (by decide) ?_
    refine sx_ialdC (j9 := 36) dX7_best_100 shM_2 (fun _ _ => rfl) (by decide) (by decide) ?_
    obtain ⟨x7, ex7, h⟩ := sx_lt h
    refine sx_nmI ex7 ?_
    refine sx_istore (ls2 := [(8, .int x7), (0, .ref 0), (1, .int v1), (2, .int v2), (3, .int v3), (4, .int v4), (5, .int v5), (6, .int v6), (7, .int v7)]) dX7_best_101 (by decide) rfl ?_
    refine sx_locs [1, 2, 3, 4, 5, 6, 7, 8, 0] rfl ?_
    exact F7_best_103_ok l  v1 v2 v3 v4 v5 v6 v7 x7 q h hk9
def F7_best_87  (v1 : Int32) (v2 : Int32) (v3 : Int32) (v4 : Int32) (v5 : Int32) (v6 : Int32) (v7 : Int32) (q : SQ) : Option (Int32 × SQ) := sx_loop (fun s39 => F7_best_87b  v1 v2 v3 s39.1 s39.2.1 s39.2.2.1 s39.2.2.2.1 s39.2.2.2.2) FU (v4, v5, v6, v7, q)
set_option maxHeartbeats 400000 in
theorem F7_best_87_ok (l : Launch)  {Q : Option Value → SQ → Prop} (v1 : Int32) (v2 : Int32) (v3 : Int32) (v4 : Int32) (v5 : Int32) (v6 : Int32) (v7 : Int32) (q : SQ) {t : Int32 × SQ} (h : F7_best_87  v1 v2 v3 v4 v5 v6 v7 q = some t) (hk9 : Q (some (.int t.1)) t.2) : PF7_best l Q 87 [(0, .ref 0), (1, .int v1), (2, .int v2), (3, .int v3), (4, .int v4), (5, .int v5), (6, .int v6), (7, .int v7)] [] q := by
  unfold F7_best_87 at h
  have st : ∀ (s : Int32 × Int32 × Int32 × Int32 × SQ) (res : (Int32 × Int32 × Int32 × Int32 × SQ) ⊕ (Int32 × SQ)), F7_best_87b  v1 v2 v3 s.1 s.2.1 s.2.2.1 s.2.2.2.1 s.2.2.2.2 = some res → (∀ s2, res = .inl s2 → PF7_best l Q 87 [(0, .ref 0), (1, .int v1), (2, .int v2), (3, .int v3), (4, .int s2.1), (5, .int s2.2.1), (6, .int s2.2.2.1), (7, .int s2.2.2.2.1)] [] s2.2.2.2.2) → (∀ t2, res = .inr t2 → Q (some (.int t2.1)) t2.2) → PF7_best l Q 87 [(0, .ref 0), (1, .int v1), (2, .int v2), (3, .int v3), (4, .int s.1), (5, .int s.2.1), (6, .int s.2.2.1), (7, .int s.2.2.2.1)] [] s.2.2.2.2 :=
    fun s res hb hi ho => F7_best_87b_ok l  v1 v2 v3 s.1 s.2.1 s.2.2.1 s.2.2.2.1 s.2.2.2.2 hb ⟨hi, ho⟩
  have h9 : PF7_best l Q 87 [(0, .ref 0), (1, .int v1), (2, .int v2), (3, .int v3), (4, .int v4), (5, .int v5), (6, .int v6), (7, .int v7)] [] q := sx_lp (body := fun s => F7_best_87b  v1 v2 v3 s.1 s.2.1 s.2.2.1 s.2.2.2.1 s.2.2.2.2) (P := fun s => PF7_best l Q 87 [(0, .ref 0), (1, .int v1), (2, .int v2), (3, .int v3), (4, .int s.1), (5, .int s.2.1), (6, .int s.2.2.1), (7, .int s.2.2.2.1)] [] s.2.2.2.2) (T := fun t => Q (some (.int t.1)) t.2) st FU (v4, v5, v6, v7, q) t h hk9
  exact h9
def F7_best_48b  (v1 : Int32) (v2 : Int32) (v3 : Int32) (v4 : Int32) (q : SQ) : Option ((Int32 × SQ) ⊕ (Int32 × SQ)) :=
  (if (4 : Int32) ≤ v4 then (F7_best_87  v1 v2 v3 (0 : Int32) (0 : Int32) (-1 : Int32) (0 : Int32) q).map .inr else (if sx_ix (((24 : Int32) + ((3 : Int32) * v4)) + (2 : Int32)) 84 = true then sx_let (sI q 2 (((24 : Int32) + ((3 : Int32) * v4)) + (2 : Int32)).toNatClampNeg (0 : Int32)) (fun q40 => sx_let (v4 + (1 : Int32)) (fun x41 => some (.inl (x41, q40)))) else none))
set_option maxHeartbeats 400000 in
theorem F7_best_48b_ok (l : Launch)  {Q : Option Value → SQ → Prop} (v1 : Int32) (v2 : Int32) (v3 : Int32) (v4 : Int32) (q : SQ) {res : (Int32 × SQ) ⊕ (Int32 × SQ)} (h : F7_best_48b  v1 v2 v3 v4 q = some res) (hk9 : (∀ a42, res = .inl a42 → PF7_best l Q 48 [(0, .ref 0), (1, .int v1), (2, .int v2), (3, .int v3), (4, .int a42.1)] [] a42.2) ∧ (∀ b43, res = .inr b43 → Q (some (.int b43.1)) b43.2)) : PF7_best l Q 48 [(0, .ref 0), (1, .int v1), (2, .int v2), (3, .int v3), (4, .int v4)] [] q := by
  unfold F7_best_48b at h
  refine sx_iload dX7_best_48 rfl ?_
  refine sx_iconst (v := (4 : Int32)) dX7_best_50 (by decide) ?_
  refine sx_icmp_ge (tgt := 75) dX7_best_51 (by decide) (fun c9 => ?_) (fun c9 => ?_)
  · replace h := sx_ip h c9
    refine sx_iconst (v := (0 : Int32)) dX7_best_75 (by decide) ?_
    refine sx_istore (ls2 := [(4, .int (0 : Int32)), (0, .ref 0), (1, .int v1), (2, .int v2), (3, .int v3)]) dX7_best_76 (by decide) rfl ?_
    refine sx_iconst (v := (0 : Int32)) dX7_best_78 (by decide) ?_
    refine sx_istore (ls2 := [(5, .int (0 : Int32)), (4, .int (0 : Int32)), (0, .ref 0), (1, .int v1), (2, .int v2), (3, .int v3)]) dX7_best_79 (by decide) rfl ?_
    refine sx_iconst (v := (-1 : Int32)) dX7_best_81 (by decide) ?_
    refine sx_istore (ls2 := [(6, .int (-1 : Int32)), (5, .int (0 : Int32)), (4, .int (0 : Int32)), (0, .ref 0), (1, .int v1), (2, .int v2), (3, .int v3)]) dX7_best_82 (by decide) rfl ?_
    refine sx_iconst (v := (0 : Int32)) dX7_best_84 (by decide) ?_
    refine sx_istore (ls2 := [(7, .int (0 : Int32)), (6, .int (-1 : Int32)), (5, .int (0 : Int32)), (4, .int (0 : Int32)), (0, .ref 0), (1, .int v1), (2, .int v2), (3, .int v3)]) dX7_best_85 (by decide) rfl ?_
    obtain ⟨t9, h, hr9⟩ := sx_mp h
    have hk9 := hk9.2 _ hr9
    refine sx_locs [4, 5, 6, 7, 3, 2, 1, 0] rfl ?_
    exact F7_best_87_ok l  v1 v2 v3 (0 : Int32) (0 : Int32) (-1 : Int32) (0 : Int32) q h hk9
  · replace h := sx_in h c9
    refine sx_aload_n dX7_best_54 rfl rfl ?_
    refine sx_getR dX7_best_55 (hs := shM_0) (k9 := 9) (hf := rfl) cb_X7 ⟨by decide, rfl, gw_808⟩ ?_
    refine sx_bipush (v := (24 : Int32)) dX7_best_58 (by decide) ?_
    refine sx_iconst (v := (3 : Int32)) dX7_best_60 (by decide) ?_
    refine sx_iload dX7_best_61 rfl ?_
    refine sx_imul dX7_best_63 ?_
    refine sx_iadd dX7_best_64 ?_
    refine sx_iconst (v := (2 : Int32)) dX7_best_65 (by decide) ?_
    refine sx_iadd dX7_best_66 ?_
    refine sx_iconst (v := (0 : Int32)) dX7_best_67 (by decide) ?_
    obtain ⟨g9, h⟩ := sx_gd h
    obtain ⟨q40, eq40, h⟩ := sx_lt h
    refine sx_iast dX7_best_68 shM_2 (fun _ _ => rfl) (sx_ix_in g9) ?_
    refine sx_nmQ eq40 ?_
    obtain ⟨x41, ex41, h⟩ := sx_lt h
    refine sx_iinc (k9 := 4) (v := x41) (ls2 := [(4, .int x41), (0, .ref 0), (1, .int v1), (2, .int v2), (3, .int v3)]) dX7_best_69 rfl (by rw [ex41, sx_ofI1]) (by decide) rfl ?_
    refine sx_goto (tgt := 48) dX7_best_72 (by decide) ?_
    refine sx_locs [1, 2, 3, 4, 0] rfl ?_
    exact hk9.1 (x41, q40) (Option.some.inj h).symm
def F7_best_48  (v1 : Int32) (v2 : Int32) (v3 : Int32) (v4 : Int32) (q : SQ) : Option (Int32 × SQ) := sx_loop (fun s44 => F7_best_48b  v1 v2 v3 s44.1 s44.2) FU (v4, q)
set_option maxHeartbeats 400000 in
theorem F7_best_48_ok (l : Launch)  {Q : Option Value → SQ → Prop} (v1 : Int32) (v2 : Int32) (v3 : Int32) (v4 : Int32) (q : SQ) {t : Int32 × SQ} (h : F7_best_48  v1 v2 v3 v4 q = some t) (hk9 : Q (some (.int t.1)) t.2) : PF7_best l Q 48 [(0, .ref 0), (1, .int v1), (2, .int v2), (3, .int v3), (4, .int v4)] [] q := by
  unfold F7_best_48 at h
  have st : ∀ (s : Int32 × SQ) (res : (Int32 × SQ) ⊕ (Int32 × SQ)), F7_best_48b  v1 v2 v3 s.1 s.2 = some res → (∀ s2, res = .inl s2 → PF7_best l Q 48 [(0, .ref 0), (1, .int v1), (2, .int v2), (3, .int v3), (4, .int s2.1)] [] s2.2) → (∀ t2, res = .inr t2 → Q (some (.int t2.1)) t2.2) → PF7_best l Q 48 [(0, .ref 0), (1, .int v1), (2, .int v2), (3, .int v3), (4, .int s.1)] [] s.2 :=
    fun s res hb hi ho => F7_best_48b_ok l  v1 v2 v3 s.1 s.2 hb ⟨hi, ho⟩
  have h9 : PF7_best l Q 48 [(0, .ref 0), (1, .int v1), (2, .int v2), (3, .int v3), (4, .int v4)] [] q := sx_lp (body := fun s => F7_best_48b  v1 v2 v3 s.1 s.2) (P := fun s => PF7_best l Q 48 [(0, .ref 0), (1, .int v1), (2, .int v2), (3, .int v3), (4, .int s.1)] [] s.2) (T := fun t => Q (some (.int t.1)) t.2) st FU (v4, q) t h hk9
  exact h9
def F7_best  (v1 : Int32) (v2 : Int32) (v3 : Int32) (q : SQ) : Option (Int32 × SQ) :=
  sx_let (sI q 0 0 (0 : Int32)) (fun q1 => (F7_isSort  v1 q1).bind (fun z2 => (if z2.1 = 0 then F7_best_38   z2.2 else (F7_in  v2 (gI z2.2 2 36) (99 : Int32) z2.2).bind (fun z3 => (if z3.1 = 0 then F7_best_38   z3.2 else (F7_in  v3 (0 : Int32) (2 : Int32) z3.2).bind (fun z4 => (if z4.1 = 0 then F7_best_38   z4.2 else (F7_aside  (1 : Int32) z4.2).bind (fun z5 => F7_best_48  v1 v2 v3 (0 : Int32) z5.2))))))))
set_option maxHeartbeats 400000 in
theorem F7_best_ok (l : Launch)  {Q : Option Value → SQ → Prop} (v1 : Int32) (v2 : Int32) (v3 : Int32) (q : SQ) {res : Int32 × SQ} (h : F7_best  v1 v2 v3 q = some res) (hk9 : Q (some (.int res.1)) res.2) : PF7_best l Q 0 [(0, .ref 0), (1, .int v1), (2, .int v2), (3, .int v3)] [] q := by
  unfold F7_best at h
  refine sx_aload_n dX7_best_0 rfl rfl ?_
  refine sx_iconst (v := (0 : Int32)) dX7_best_1 (by decide) ?_
  obtain ⟨q1, eq1, h⟩ := sx_lt h
  refine sx_putI dX7_best_2 (hs := shM_0) (k9 := 0) (hf := rfl) cb_X7 ⟨by decide, rfl, gw_799⟩ rfl (by decide) ?_
  refine sx_nmQ eq1 ?_
  refine sx_aload_n dX7_best_5 rfl rfl ?_
  refine sx_iload_n dX7_best_6 rfl rfl ?_
  obtain ⟨z2, hz2, h⟩ := sx_bd h
  refine sx_callV (o := 0) (As := [.int v1]) (rest := []) KSM (F7_isSort_ck l  v1 q1 hz2) mi_X7_isSort gw_927 rfl ⟨gw_929, gw_41⟩ shM_0 rfl rfl ⟨Nat.le_of_ble_eq_true rfl, Nat.le_of_ble_eq_true rfl⟩ (Nat.le_of_ble_eq_true rfl) dX7_best_7 rfl ?_
  refine sx_if_eq (tgt := 38) dX7_best_10 (by decide) (fun c9 => ?_) (fun c9 => ?_)
  · replace h := sx_ip h c9
    refine sx_locs [] rfl ?_
    exact F7_best_38_ok l   z2.2 h hk9
  · replace h := sx_in h c9
    refine sx_iload_n dX7_best_13 rfl rfl ?_
    refine sx_aload_n dX7_best_14 rfl rfl ?_
    refine sx_getR dX7_best_15 (hs := shM_0) (k9 := 9) (hf := rfl) cb_X7 ⟨by decide, rfl, gw_808⟩ ?_
    refine sx_bipush (v := (36 : Int32)) dX7_best_18 (by decide) ?_
    refine sx_ialdC (j9 := 36) dX7_best_20 shM_2 (fun _ _ => rfl) (by decide) (by decide) ?_
    refine sx_bipush (v := (99 : Int32)) dX7_best_21 (by decide) ?_
    obtain ⟨z3, hz3, h⟩ := sx_bd h
    refine sx_callS (As := [.int v2, .int (gI z2.2 2 36), .int (99 : Int32)]) (rest := []) KSM (F7_in_ck l  v2 (gI z2.2 2 36) (99 : Int32) z2.2 hz3) mi_X7_in gw_865 rfl gw_866 ⟨Nat.le_of_ble_eq_true rfl, Nat.le_of_ble_eq_true rfl⟩ (Nat.le_of_ble_eq_true rfl) dX7_best_23 rfl ?_
    refine sx_if_eq (tgt := 38) dX7_best_26 (by decide) (fun c9 => ?_) (fun c9 => ?_)
    · replace h := sx_ip h c9
      refine sx_locs [] rfl ?_
      exact F7_best_38_ok l   z3.2 h hk9
    · replace h := sx_in h c9
      refine sx_iload_n dX7_best_29 rfl rfl ?_
      refine sx_iconst (v := (0 : Int32)) dX7_best_30 (by decide) ?_
      refine sx_iconst (v := (2 : Int32)) dX7_best_31 (by decide) ?_
      obtain ⟨z4, hz4, h⟩ := sx_bd h
      refine sx_callS (As := [.int v3, .int (0 : Int32), .int (2 : Int32)]) (rest := []) KSM (F7_in_ck l  v3 (0 : Int32) (2 : Int32) z3.2 hz4) mi_X7_in gw_865 rfl gw_866 ⟨Nat.le_of_ble_eq_true rfl, Nat.le_of_ble_eq_true rfl⟩ (Nat.le_of_ble_eq_true rfl) dX7_best_32 rfl ?_
      refine sx_if_ne (tgt := 40) dX7_best_35 (by decide) (fun c9 => ?_) (fun c9 => ?_)
      · replace h := sx_in h c9
        refine sx_aload_n dX7_best_40 rfl rfl ?_
        refine sx_iconst (v := (1 : Int32)) dX7_best_41 (by decide) ?_
        obtain ⟨z5, hz5, h⟩ := sx_bd h
        refine sx_callV (o := 0) (As := [.int (1 : Int32)]) (rest := []) KSM (F7_aside_ck l  (1 : Int32) z4.2 hz5) mi_X7_aside gw_1021 rfl ⟨gw_1023, gw_52⟩ shM_0 rfl rfl ⟨Nat.le_of_ble_eq_true rfl, Nat.le_of_ble_eq_true rfl⟩ (Nat.le_of_ble_eq_true rfl) dX7_best_42 rfl ?_
        refine sx_iconst (v := (0 : Int32)) dX7_best_45 (by decide) ?_
        refine sx_istore (ls2 := [(4, .int (0 : Int32)), (0, .ref 0), (1, .int v1), (2, .int v2), (3, .int v3)]) dX7_best_46 (by decide) rfl ?_
        refine sx_locs [1, 2, 3, 4, 0] rfl ?_
        exact F7_best_48_ok l  v1 v2 v3 (0 : Int32) z5.2 h hk9
      · replace h := sx_ip h c9
        refine sx_locs [] rfl ?_
        exact F7_best_38_ok l   z4.2 h hk9
theorem F7_best_ck (l : Launch)  (v1 : Int32) (v2 : Int32) (v3 : Int32) (q : SQ) {r : Int32 × SQ} (h : F7_best  v1 v2 v3 q = some r) : CK shM vwCl KM tfM l yX7_best cX7_best 10 ((some .int)) 6 151 [.ref 0, .int v1, .int v2, .int v3] q (some (.int r.1)) r.2 :=
  CK.of mi_X7_best (Nat.le_of_ble_eq_true rfl) (F7_best_ok l  v1 v2 v3 q h ⟨rfl, rfl⟩)
theorem mi_X7_line : sx_MI yX7_line cX7_line 7 ((some .int)) 3 := ⟨by decide, ⟨by decide, by decide, by decide +kernel⟩, gw_1028, gw_68⟩
abbrev PF7_line (l : Launch) (Q : Option Value → SQ → Prop) : Nat → List (Nat × Value) → List Value → SQ → Prop := XX shM vwCl KM tfM l RX7 cX7_line 7 ((some .int)) { frames := 6, cells := 0, slots := 0, locals := 151 } Q
def F7_line_32   (q : SQ) : Option (Int32 × SQ) :=
  some ((-1 : Int32), q)
set_option maxHeartbeats 400000 in
theorem F7_line_32_ok (l : Launch)  {Q : Option Value → SQ → Prop}  (q : SQ) {res : Int32 × SQ} (h : F7_line_32   q = some res) (hk9 : Q (some (.int res.1)) res.2) : PF7_line l Q 32 [] [] q := by
  unfold F7_line_32 at h
  refine sx_iconst (v := (-1 : Int32)) dX7_line_32 (by decide) ?_
  obtain rfl := Option.some.inj h
  exact sx_iret dX7_line_33 rfl hk9
def F7_line_132  (v4 : Int32) (q : SQ) : Option (Int32 × SQ) :=
  (F7_aside  (0 : Int32) q).bind (fun z9 => some (v4, z9.2))
set_option maxHeartbeats 400000 in
theorem F7_line_132_ok (l : Launch)  {Q : Option Value → SQ → Prop} (v4 : Int32) (q : SQ) {res : Int32 × SQ} (h : F7_line_132  v4 q = some res) (hk9 : Q (some (.int res.1)) res.2) : PF7_line l Q 132 [(0, .ref 0), (4, .int v4)] [] q := by
  unfold F7_line_132 at h
  refine sx_aload_n dX7_line_132 rfl rfl ?_
  refine sx_iconst (v := (0 : Int32)) dX7_line_133 (by decide) ?_
  obtain ⟨z9, hz9, h⟩ := sx_bd h
  refine sx_callV (o := 0) (As := [.int (0 : Int32)]) (rest := []) KSM (F7_aside_ck l  (0 : Int32) q hz9) mi_X7_aside gw_1021 rfl ⟨gw_1023, gw_52⟩ shM_0 rfl rfl ⟨Nat.le_of_ble_eq_true rfl, Nat.le_of_ble_eq_true rfl⟩ (Nat.le_of_ble_eq_true rfl) dX7_line_134 rfl ?_
  refine sx_iload dX7_line_137 rfl ?_
  obtain rfl := Option.some.inj h
  exact sx_iret dX7_line_139 rfl hk9
def F7_line_119  (v3 : Int32) (v5 : Int32) (s0 : Int32) (q : SQ) : Option ((Int32 × Int32 × SQ) ⊕ (Int32 × SQ)) :=
  sx_let (sI q 0 16 (0 : Int32)) (fun q15 => sx_let (v5 + (1 : Int32)) (fun x16 => some (.inl (s0, x16, q15))))
set_option maxHeartbeats 400000 in
theorem F7_line_119_ok (l : Launch)  {Q : Option Value → SQ → Prop} (v3 : Int32) (v5 : Int32) (s0 : Int32) (q : SQ) {res : (Int32 × Int32 × SQ) ⊕ (Int32 × SQ)} (h : F7_line_119  v3 v5 s0 q = some res) (hk9 : (∀ a17, res = .inl a17 → PF7_line l Q 68 [(0, .ref 0), (3, .int v3), (4, .int a17.1), (5, .int a17.2.1)] [] a17.2.2) ∧ (∀ b18, res = .inr b18 → Q (some (.int b18.1)) b18.2)) : PF7_line l Q 119 [(0, .ref 0), (3, .int v3), (5, .int v5)] [.int s0] q := by
  unfold F7_line_119 at h
  refine sx_istore (ls2 := [(4, .int s0), (0, .ref 0), (3, .int v3), (5, .int v5)]) dX7_line_119 (by decide) rfl ?_
  refine sx_aload_n dX7_line_121 rfl rfl ?_
  refine sx_iconst (v := (0 : Int32)) dX7_line_122 (by decide) ?_
  obtain ⟨q15, eq15, h⟩ := sx_lt h
  refine sx_putZ dX7_line_123 (hs := shM_0) (k9 := 16) (hf := rfl) cb_X7 ⟨by decide, rfl, gw_815⟩ rfl (by decide) (by decide) ?_
  refine sx_nmQ eq15 ?_
  obtain ⟨x16, ex16, h⟩ := sx_lt h
  refine sx_iinc (k9 := 3) (v := x16) (ls2 := [(5, .int x16), (4, .int s0), (0, .ref 0), (3, .int v3)]) dX7_line_126 rfl (by rw [ex16, sx_ofI1]) (by decide) rfl ?_
  refine sx_goto (tgt := 68) dX7_line_129 (by decide) ?_
  refine sx_locs [2, 3, 1, 0] rfl ?_
  exact hk9.1 (s0, x16, q15) (Option.some.inj h).symm
def F7_line_68b  (v3 : Int32) (v4 : Int32) (v5 : Int32) (q : SQ) : Option ((Int32 × Int32 × SQ) ⊕ (Int32 × SQ)) :=
  (if (101 : Int32) ≤ v5 then (F7_line_132  v4 q).map .inr else (if v4 = (-9 : Int32) then sx_let (sI q 2 0 v5) (fun q10 => (F7_endOn  v3 q10).bind (fun z11 => sx_let z11.1 (fun x12 => sx_let (sI z11.2 0 16 (1 : Int32)) (fun q13 => (F7_endOn  v3 q13).bind (fun z14 => (if z14.1 ≤ x12 then F7_line_119  v3 v5 (-9 : Int32) z14.2 else F7_line_119  v3 v5 v5 z14.2)))))) else (F7_line_132  v4 q).map .inr))
set_option maxHeartbeats 400000 in
theorem F7_line_68b_ok (l : Launch)  {Q : Option Value → SQ → Prop} (v3 : Int32) (v4 : Int32) (v5 : Int32) (q : SQ) {res : (Int32 × Int32 × SQ) ⊕ (Int32 × SQ)} (h : F7_line_68b  v3 v4 v5 q = some res) (hk9 : (∀ a19, res = .inl a19 → PF7_line l Q 68 [(0, .ref 0), (3, .int v3), (4, .int a19.1), (5, .int a19.2.1)] [] a19.2.2) ∧ (∀ b20, res = .inr b20 → Q (some (.int b20.1)) b20.2)) : PF7_line l Q 68 [(0, .ref 0), (3, .int v3), (4, .int v4), (5, .int v5)] [] q := by
  unfold F7_line_68b at h
  refine sx_iload dX7_line_68 rfl ?_
  refine sx_bipush (v := (101 : Int32)) dX7_line_70 (by decide) ?_
  refine sx_icmp_ge (tgt := 132) dX7_line_72 (by decide) (fun c9 => ?_) (fun c9 => ?_)
  · replace h := sx_ip h c9
    obtain ⟨t9, h, hr9⟩ := sx_mp h
    have hk9 := hk9.2 _ hr9
    refine sx_locs [0, 2] rfl ?_
    exact F7_line_132_ok l  v4 q h hk9
  · replace h := sx_in h c9
    refine sx_iload dX7_line_75 rfl ?_
    refine sx_bipush (v := (-9 : Int32)) dX7_line_77 (by decide) ?_
    refine sx_icmp_ne (tgt := 132) dX7_line_79 (by decide) (fun c9 => ?_) (fun c9 => ?_)
    · replace h := sx_in h c9
      obtain ⟨t9, h, hr9⟩ := sx_mp h
      have hk9 := hk9.2 _ hr9
      refine sx_locs [0, 2] rfl ?_
      exact F7_line_132_ok l  v4 q h hk9
    · replace h := sx_ip h c9
      refine sx_aload_n dX7_line_82 rfl rfl ?_
      refine sx_getR dX7_line_83 (hs := shM_0) (k9 := 9) (hf := rfl) cb_X7 ⟨by decide, rfl, gw_808⟩ ?_
      refine sx_iconst (v := (0 : Int32)) dX7_line_86 (by decide) ?_
      refine sx_iload dX7_line_87 rfl ?_
      obtain ⟨q10, eq10, h⟩ := sx_lt h
      refine sx_iastC (j9 := 0) dX7_line_89 shM_2 (fun _ _ => rfl) (by decide) (by decide) ?_
      refine sx_nmQ eq10 ?_
      refine sx_aload_n dX7_line_90 rfl rfl ?_
      refine sx_iload_n dX7_line_91 rfl rfl ?_
      obtain ⟨z11, hz11, h⟩ := sx_bd h
      refine sx_callV (o := 0) (As := [.int v3]) (rest := []) KSM (F7_endOn_ck l  v3 q10 hz11) mi_X7_endOn gw_1013 rfl ⟨gw_1015, gw_51⟩ shM_0 rfl rfl ⟨Nat.le_of_ble_eq_true rfl, Nat.le_of_ble_eq_true rfl⟩ (Nat.le_of_ble_eq_true rfl) dX7_line_92 rfl ?_
      obtain ⟨x12, ex12, h⟩ := sx_lt h
      refine sx_nmI ex12 ?_
      refine sx_istore (ls2 := [(6, .int x12), (0, .ref 0), (3, .int v3), (4, .int v4), (5, .int v5)]) dX7_line_95 (by decide) rfl ?_
      refine sx_aload_n dX7_line_97 rfl rfl ?_
      refine sx_iconst (v := (1 : Int32)) dX7_line_98 (by decide) ?_
      obtain ⟨q13, eq13, h⟩ := sx_lt h
      refine sx_putZ dX7_line_99 (hs := shM_0) (k9 := 16) (hf := rfl) cb_X7 ⟨by decide, rfl, gw_815⟩ rfl (by decide) (by decide) ?_
      refine sx_nmQ eq13 ?_
      refine sx_iload dX7_line_102 rfl ?_
      refine sx_aload_n dX7_line_104 rfl rfl ?_
      refine sx_iload_n dX7_line_105 rfl rfl ?_
      obtain ⟨z14, hz14, h⟩ := sx_bd h
      refine sx_callV (o := 0) (As := [.int v3]) (rest := [.int x12]) KSM (F7_endOn_ck l  v3 q13 hz14) mi_X7_endOn gw_1013 rfl ⟨gw_1015, gw_51⟩ shM_0 rfl rfl ⟨Nat.le_of_ble_eq_true rfl, Nat.le_of_ble_eq_true rfl⟩ (Nat.le_of_ble_eq_true rfl) dX7_line_106 rfl ?_
      refine sx_icmp_ge (tgt := 117) dX7_line_109 (by decide) (fun c9 => ?_) (fun c9 => ?_)
      · replace h := sx_ip h c9
        refine sx_bipush (v := (-9 : Int32)) dX7_line_117 (by decide) ?_
        refine sx_locs [1, 2, 4] rfl ?_
        exact F7_line_119_ok l  v3 v5 (-9 : Int32) z14.2 h hk9
      · replace h := sx_in h c9
        refine sx_iload dX7_line_112 rfl ?_
        refine sx_goto (tgt := 119) dX7_line_114 (by decide) ?_
        refine sx_locs [1, 2, 4] rfl ?_
        exact F7_line_119_ok l  v3 v5 v5 z14.2 h hk9
def F7_line_68  (v3 : Int32) (v4 : Int32) (v5 : Int32) (q : SQ) : Option (Int32 × SQ) := sx_loop (fun s21 => F7_line_68b  v3 s21.1 s21.2.1 s21.2.2) FU (v4, v5, q)
set_option maxHeartbeats 400000 in
theorem F7_line_68_ok (l : Launch)  {Q : Option Value → SQ → Prop} (v3 : Int32) (v4 : Int32) (v5 : Int32) (q : SQ) {t : Int32 × SQ} (h : F7_line_68  v3 v4 v5 q = some t) (hk9 : Q (some (.int t.1)) t.2) : PF7_line l Q 68 [(0, .ref 0), (3, .int v3), (4, .int v4), (5, .int v5)] [] q := by
  unfold F7_line_68 at h
  have st : ∀ (s : Int32 × Int32 × SQ) (res : (Int32 × Int32 × SQ) ⊕ (Int32 × SQ)), F7_line_68b  v3 s.1 s.2.1 s.2.2 = some res → (∀ s2, res = .inl s2 → PF7_line l Q 68 [(0, .ref 0), (3, .int v3), (4, .int s2.1), (5, .int s2.2.1)] [] s2.2.2) → (∀ t2, res = .inr t2 → Q (some (.int t2.1)) t2.2) → PF7_line l Q 68 [(0, .ref 0), (3, .int v3), (4, .int s.1), (5, .int s.2.1)] [] s.2.2 :=
    fun s res hb hi ho => F7_line_68b_ok l  v3 s.1 s.2.1 s.2.2 hb ⟨hi, ho⟩
  have h9 : PF7_line l Q 68 [(0, .ref 0), (3, .int v3), (4, .int v4), (5, .int v5)] [] q := sx_lp (body := fun s => F7_line_68b  v3 s.1 s.2.1 s.2.2) (P := fun s => PF7_line l Q 68 [(0, .ref 0), (3, .int v3), (4, .int s.1), (5, .int s.2.1)] [] s.2.2) (T := fun t => Q (some (.int t.1)) t.2) st FU (v4, v5, q) t h hk9
  exact h9
def F7_line  (v1 : Int32) (v2 : Int32) (v3 : Int32) (q : SQ) : Option (Int32 × SQ) :=
  sx_let (sI q 0 0 (0 : Int32)) (fun q1 => (F7_in  v1 (1 : Int32) (9 : Int32) q1).bind (fun z2 => (if z2.1 = 0 then F7_line_32   z2.2 else (F7_in  v2 (0 : Int32) (9 : Int32) z2.2).bind (fun z3 => (if z3.1 = 0 then F7_line_32   z3.2 else (F7_isDay  v3 z3.2).bind (fun z4 => (if z4.1 = 0 then F7_line_32   z4.2 else (F7_aside  (1 : Int32) z4.2).bind (fun z5 => sx_let (sI z5.2 2 40 (1 : Int32)) (fun q6 => sx_let (sI q6 2 1 v1) (fun q7 => sx_let (sI q7 2 2 v2) (fun q8 => F7_line_68  v3 (-9 : Int32) (0 : Int32) q8)))))))))))
set_option maxHeartbeats 400000 in
theorem F7_line_ok (l : Launch)  {Q : Option Value → SQ → Prop} (v1 : Int32) (v2 : Int32) (v3 : Int32) (q : SQ) {res : Int32 × SQ} (h : F7_line  v1 v2 v3 q = some res) (hk9 : Q (some (.int res.1)) res.2) : PF7_line l Q 0 [(0, .ref 0), (1, .int v1), (2, .int v2), (3, .int v3)] [] q := by
  unfold F7_line at h
  refine sx_aload_n dX7_line_0 rfl rfl ?_
  refine sx_iconst (v := (0 : Int32)) dX7_line_1 (by decide) ?_
  obtain ⟨q1, eq1, h⟩ := sx_lt h
  refine sx_putI dX7_line_2 (hs := shM_0) (k9 := 0) (hf := rfl) cb_X7 ⟨by decide, rfl, gw_799⟩ rfl (by decide) ?_
  refine sx_nmQ eq1 ?_
  refine sx_iload_n dX7_line_5 rfl rfl ?_
  refine sx_iconst (v := (1 : Int32)) dX7_line_6 (by decide) ?_
  refine sx_bipush (v := (9 : Int32)) dX7_line_7 (by decide) ?_
  obtain ⟨z2, hz2, h⟩ := sx_bd h
  refine sx_callS (As := [.int v1, .int (1 : Int32), .int (9 : Int32)]) (rest := []) KSM (F7_in_ck l  v1 (1 : Int32) (9 : Int32) q1 hz2) mi_X7_in gw_865 rfl gw_866 ⟨Nat.le_of_ble_eq_true rfl, Nat.le_of_ble_eq_true rfl⟩ (Nat.le_of_ble_eq_true rfl) dX7_line_9 rfl ?_
  refine sx_if_eq (tgt := 32) dX7_line_12 (by decide) (fun c9 => ?_) (fun c9 => ?_)
  · replace h := sx_ip h c9
    refine sx_locs [] rfl ?_
    exact F7_line_32_ok l   z2.2 h hk9
  · replace h := sx_in h c9
    refine sx_iload_n dX7_line_15 rfl rfl ?_
    refine sx_iconst (v := (0 : Int32)) dX7_line_16 (by decide) ?_
    refine sx_bipush (v := (9 : Int32)) dX7_line_17 (by decide) ?_
    obtain ⟨z3, hz3, h⟩ := sx_bd h
    refine sx_callS (As := [.int v2, .int (0 : Int32), .int (9 : Int32)]) (rest := []) KSM (F7_in_ck l  v2 (0 : Int32) (9 : Int32) z2.2 hz3) mi_X7_in gw_865 rfl gw_866 ⟨Nat.le_of_ble_eq_true rfl, Nat.le_of_ble_eq_true rfl⟩ (Nat.le_of_ble_eq_true rfl) dX7_line_19 rfl ?_
    refine sx_if_eq (tgt := 32) dX7_line_22 (by decide) (fun c9 => ?_) (fun c9 => ?_)
    · replace h := sx_ip h c9
      refine sx_locs [] rfl ?_
      exact F7_line_32_ok l   z3.2 h hk9
    · replace h := sx_in h c9
      refine sx_iload_n dX7_line_25 rfl rfl ?_
      obtain ⟨z4, hz4, h⟩ := sx_bd h
      refine sx_callS (As := [.int v3]) (rest := []) KSM (F7_isDay_ck l  v3 z3.2 hz4) mi_X7_isDay gw_943 rfl gw_944 ⟨Nat.le_of_ble_eq_true rfl, Nat.le_of_ble_eq_true rfl⟩ (Nat.le_of_ble_eq_true rfl) dX7_line_26 rfl ?_
      refine sx_if_ne (tgt := 34) dX7_line_29 (by decide) (fun c9 => ?_) (fun c9 => ?_)
      · replace h := sx_in h c9
        refine sx_aload_n dX7_line_34 rfl rfl ?_
        refine sx_iconst (v := (1 : Int32)) dX7_line_35 (by decide) ?_
        obtain ⟨z5, hz5, h⟩ := sx_bd h
        refine sx_callV (o := 0) (As := [.int (1 : Int32)]) (rest := []) KSM (F7_aside_ck l  (1 : Int32) z4.2 hz5) mi_X7_aside gw_1021 rfl ⟨gw_1023, gw_52⟩ shM_0 rfl rfl ⟨Nat.le_of_ble_eq_true rfl, Nat.le_of_ble_eq_true rfl⟩ (Nat.le_of_ble_eq_true rfl) dX7_line_36 rfl ?_
        refine sx_aload_n dX7_line_39 rfl rfl ?_
        refine sx_getR dX7_line_40 (hs := shM_0) (k9 := 9) (hf := rfl) cb_X7 ⟨by decide, rfl, gw_808⟩ ?_
        refine sx_bipush (v := (40 : Int32)) dX7_line_43 (by decide) ?_
        refine sx_iconst (v := (1 : Int32)) dX7_line_45 (by decide) ?_
        obtain ⟨q6, eq6, h⟩ := sx_lt h
        refine sx_iastC (j9 := 40) dX7_line_46 shM_2 (fun _ _ => rfl) (by decide) (by decide) ?_
        refine sx_nmQ eq6 ?_
        refine sx_aload_n dX7_line_47 rfl rfl ?_
        refine sx_getR dX7_line_48 (hs := shM_0) (k9 := 9) (hf := rfl) cb_X7 ⟨by decide, rfl, gw_808⟩ ?_
        refine sx_iconst (v := (1 : Int32)) dX7_line_51 (by decide) ?_
        refine sx_iload_n dX7_line_52 rfl rfl ?_
        obtain ⟨q7, eq7, h⟩ := sx_lt h
        refine sx_iastC (j9 := 1) dX7_line_53 shM_2 (fun _ _ => rfl) (by decide) (by decide) ?_
        refine sx_nmQ eq7 ?_
        refine sx_aload_n dX7_line_54 rfl rfl ?_
        refine sx_getR dX7_line_55 (hs := shM_0) (k9 := 9) (hf := rfl) cb_X7 ⟨by decide, rfl, gw_808⟩ ?_
        refine sx_iconst (v := (2 : Int32)) dX7_line_58 (by decide) ?_
        refine sx_iload_n dX7_line_59 rfl rfl ?_
        obtain ⟨q8, eq8, h⟩ := sx_lt h
        refine sx_iastC (j9 := 2) dX7_line_60 shM_2 (fun _ _ => rfl) (by decide) (by decide) ?_
        refine sx_nmQ eq8 ?_
        refine sx_bipush (v := (-9 : Int32)) dX7_line_61 (by decide) ?_
        refine sx_istore (ls2 := [(4, .int (-9 : Int32)), (0, .ref 0), (1, .int v1), (2, .int v2), (3, .int v3)]) dX7_line_63 (by decide) rfl ?_
        refine sx_iconst (v := (0 : Int32)) dX7_line_65 (by decide) ?_
        refine sx_istore (ls2 := [(5, .int (0 : Int32)), (4, .int (-9 : Int32)), (0, .ref 0), (1, .int v1), (2, .int v2), (3, .int v3)]) dX7_line_66 (by decide) rfl ?_
        refine sx_locs [2, 5, 1, 0] rfl ?_
        exact F7_line_68_ok l  v3 (-9 : Int32) (0 : Int32) q8 h hk9
      · replace h := sx_ip h c9
        refine sx_locs [] rfl ?_
        exact F7_line_32_ok l   z4.2 h hk9
theorem F7_line_ck (l : Launch)  (v1 : Int32) (v2 : Int32) (v3 : Int32) (q : SQ) {r : Int32 × SQ} (h : F7_line  v1 v2 v3 q = some r) : CK shM vwCl KM tfM l yX7_line cX7_line 7 ((some .int)) 6 151 [.ref 0, .int v1, .int v2, .int v3] q (some (.int r.1)) r.2 :=
  CK.of mi_X7_line (Nat.le_of_ble_eq_true rfl) (F7_line_ok l  v1 v2 v3 q h ⟨rfl, rfl⟩)
theorem mi_X7_ending : sx_MI yX7_ending cX7_ending 6 ((some .int)) 1 := ⟨by decide, ⟨by decide, by decide, by decide +kernel⟩, gw_1032, gw_68⟩
abbrev PF7_ending (l : Launch) (Q : Option Value → SQ → Prop) : Nat → List (Nat × Value) → List Value → SQ → Prop := XX shM vwCl KM tfM l RX7 cX7_ending 6 ((some .int)) { frames := 6, cells := 0, slots := 0, locals := 151 } Q
def F7_ending_74  (v1 : Int32) (v2 : Int32) (v4 : Int32) (s0 : Int32) (q : SQ) : Option ((Int32 × Int32 × Int32 × SQ) ⊕ (Int32 × SQ)) :=
  sx_let (v4 + (1 : Int32)) (fun x8 => some (.inl (v2, s0, x8, q)))
set_option maxHeartbeats 400000 in
theorem F7_ending_74_ok (l : Launch)  {Q : Option Value → SQ → Prop} (v1 : Int32) (v2 : Int32) (v4 : Int32) (s0 : Int32) (q : SQ) {res : (Int32 × Int32 × Int32 × SQ) ⊕ (Int32 × SQ)} (h : F7_ending_74  v1 v2 v4 s0 q = some res) (hk9 : (∀ a9, res = .inl a9 → PF7_ending l Q 26 [(0, .ref 0), (1, .int v1), (2, .int a9.1), (3, .int a9.2.1), (4, .int a9.2.2.1)] [] a9.2.2.2) ∧ (∀ b10, res = .inr b10 → Q (some (.int b10.1)) b10.2)) : PF7_ending l Q 74 [(0, .ref 0), (1, .int v1), (2, .int v2), (4, .int v4)] [.int s0] q := by
  unfold F7_ending_74 at h
  refine sx_istore_n (ls2 := [(3, .int s0), (0, .ref 0), (1, .int v1), (2, .int v2), (4, .int v4)]) dX7_ending_74 rfl (by decide) rfl ?_
  obtain ⟨x8, ex8, h⟩ := sx_lt h
  refine sx_iinc (k9 := 4) (v := x8) (ls2 := [(4, .int x8), (3, .int s0), (0, .ref 0), (1, .int v1), (2, .int v2)]) dX7_ending_75 rfl (by rw [ex8, sx_ofI1]) (by decide) rfl ?_
  refine sx_goto (tgt := 26) dX7_ending_78 (by decide) ?_
  refine sx_locs [2, 3, 4, 1, 0] rfl ?_
  exact hk9.1 (v2, s0, x8, q) (Option.some.inj h).symm
def F7_ending_61  (v1 : Int32) (v3 : Int32) (v4 : Int32) (v5 : Int32) (s0 : Int32) (q : SQ) : Option ((Int32 × Int32 × Int32 × SQ) ⊕ (Int32 × SQ)) :=
  (if v5 ≤ v3 then F7_ending_74  v1 s0 v4 v3 q else F7_ending_74  v1 s0 v4 v5 q)
set_option maxHeartbeats 400000 in
theorem F7_ending_61_ok (l : Launch)  {Q : Option Value → SQ → Prop} (v1 : Int32) (v3 : Int32) (v4 : Int32) (v5 : Int32) (s0 : Int32) (q : SQ) {res : (Int32 × Int32 × Int32 × SQ) ⊕ (Int32 × SQ)} (h : F7_ending_61  v1 v3 v4 v5 s0 q = some res) (hk9 : (∀ a11, res = .inl a11 → PF7_ending l Q 26 [(0, .ref 0), (1, .int v1), (2, .int a11.1), (3, .int a11.2.1), (4, .int a11.2.2.1)] [] a11.2.2.2) ∧ (∀ b12, res = .inr b12 → Q (some (.int b12.1)) b12.2)) : PF7_ending l Q 61 [(0, .ref 0), (1, .int v1), (3, .int v3), (4, .int v4), (5, .int v5)] [.int s0] q := by
  unfold F7_ending_61 at h
  refine sx_istore_n (ls2 := [(2, .int s0), (0, .ref 0), (1, .int v1), (3, .int v3), (4, .int v4), (5, .int v5)]) dX7_ending_61 rfl (by decide) rfl ?_
  refine sx_iload dX7_ending_62 rfl ?_
  refine sx_iload_n dX7_ending_64 rfl rfl ?_
  refine sx_icmp_le (tgt := 73) dX7_ending_65 (by decide) (fun c9 => ?_) (fun c9 => ?_)
  · replace h := sx_ip h c9
    refine sx_iload_n dX7_ending_73 rfl rfl ?_
    refine sx_locs [1, 2, 0, 4] rfl ?_
    exact F7_ending_74_ok l  v1 s0 v4 v3 q h hk9
  · replace h := sx_in h c9
    refine sx_iload dX7_ending_68 rfl ?_
    refine sx_goto (tgt := 74) dX7_ending_70 (by decide) ?_
    refine sx_locs [1, 2, 0, 4] rfl ?_
    exact F7_ending_74_ok l  v1 s0 v4 v5 q h hk9
def F7_ending_26b  (v1 : Int32) (v2 : Int32) (v3 : Int32) (v4 : Int32) (q : SQ) : Option ((Int32 × Int32 × Int32 × SQ) ⊕ (Int32 × SQ)) :=
  (if (21 : Int32) ≤ v4 then (F7_aside  (0 : Int32) q).bind (fun z4 => some (.inr (v2, z4.2))) else sx_let (sI q 2 39 v4) (fun q5 => (F7_endOn  v1 q5).bind (fun z6 => sx_let z6.1 (fun x7 => (if x7 ≤ v3 then F7_ending_61  v1 v3 v4 x7 v2 z6.2 else F7_ending_61  v1 v3 v4 x7 v4 z6.2)))))
set_option maxHeartbeats 400000 in
theorem F7_ending_26b_ok (l : Launch)  {Q : Option Value → SQ → Prop} (v1 : Int32) (v2 : Int32) (v3 : Int32) (v4 : Int32) (q : SQ) {res : (Int32 × Int32 × Int32 × SQ) ⊕ (Int32 × SQ)} (h : F7_ending_26b  v1 v2 v3 v4 q = some res) (hk9 : (∀ a13, res = .inl a13 → PF7_ending l Q 26 [(0, .ref 0), (1, .int v1), (2, .int a13.1), (3, .int a13.2.1), (4, .int a13.2.2.1)] [] a13.2.2.2) ∧ (∀ b14, res = .inr b14 → Q (some (.int b14.1)) b14.2)) : PF7_ending l Q 26 [(0, .ref 0), (1, .int v1), (2, .int v2), (3, .int v3), (4, .int v4)] [] q := by
  unfold F7_ending_26b at h
  refine sx_iload dX7_ending_26 rfl ?_
  refine sx_bipush (v := (21 : Int32)) dX7_ending_28 (by decide) ?_
  refine sx_icmp_ge (tgt := 81) dX7_ending_30 (by decide) (fun c9 => ?_) (fun c9 => ?_)
  · replace h := sx_ip h c9
    refine sx_aload_n dX7_ending_81 rfl rfl ?_
    refine sx_iconst (v := (0 : Int32)) dX7_ending_82 (by decide) ?_
    obtain ⟨z4, hz4, h⟩ := sx_bd h
    refine sx_callV (o := 0) (As := [.int (0 : Int32)]) (rest := []) KSM (F7_aside_ck l  (0 : Int32) q hz4) mi_X7_aside gw_1021 rfl ⟨gw_1023, gw_52⟩ shM_0 rfl rfl ⟨Nat.le_of_ble_eq_true rfl, Nat.le_of_ble_eq_true rfl⟩ (Nat.le_of_ble_eq_true rfl) dX7_ending_83 rfl ?_
    refine sx_iload_n dX7_ending_86 rfl rfl ?_
    have hk9 := hk9.2 _ (Option.some.inj h).symm
    exact sx_iret dX7_ending_87 rfl hk9
  · replace h := sx_in h c9
    refine sx_aload_n dX7_ending_33 rfl rfl ?_
    refine sx_getR dX7_ending_34 (hs := shM_0) (k9 := 9) (hf := rfl) cb_X7 ⟨by decide, rfl, gw_808⟩ ?_
    refine sx_bipush (v := (39 : Int32)) dX7_ending_37 (by decide) ?_
    refine sx_iload dX7_ending_39 rfl ?_
    obtain ⟨q5, eq5, h⟩ := sx_lt h
    refine sx_iastC (j9 := 39) dX7_ending_41 shM_2 (fun _ _ => rfl) (by decide) (by decide) ?_
    refine sx_nmQ eq5 ?_
    refine sx_aload_n dX7_ending_42 rfl rfl ?_
    refine sx_iload_n dX7_ending_43 rfl rfl ?_
    obtain ⟨z6, hz6, h⟩ := sx_bd h
    refine sx_callV (o := 0) (As := [.int v1]) (rest := []) KSM (F7_endOn_ck l  v1 q5 hz6) mi_X7_endOn gw_1013 rfl ⟨gw_1015, gw_51⟩ shM_0 rfl rfl ⟨Nat.le_of_ble_eq_true rfl, Nat.le_of_ble_eq_true rfl⟩ (Nat.le_of_ble_eq_true rfl) dX7_ending_44 rfl ?_
    obtain ⟨x7, ex7, h⟩ := sx_lt h
    refine sx_nmI ex7 ?_
    refine sx_istore (ls2 := [(5, .int x7), (0, .ref 0), (1, .int v1), (2, .int v2), (3, .int v3), (4, .int v4)]) dX7_ending_47 (by decide) rfl ?_
    refine sx_iload dX7_ending_49 rfl ?_
    refine sx_iload_n dX7_ending_51 rfl rfl ?_
    refine sx_icmp_le (tgt := 60) dX7_ending_52 (by decide) (fun c9 => ?_) (fun c9 => ?_)
    · replace h := sx_ip h c9
      refine sx_iload_n dX7_ending_60 rfl rfl ?_
      refine sx_locs [1, 2, 4, 5, 0] rfl ?_
      exact F7_ending_61_ok l  v1 v3 v4 x7 v2 z6.2 h hk9
    · replace h := sx_in h c9
      refine sx_iload dX7_ending_55 rfl ?_
      refine sx_goto (tgt := 61) dX7_ending_57 (by decide) ?_
      refine sx_locs [1, 2, 4, 5, 0] rfl ?_
      exact F7_ending_61_ok l  v1 v3 v4 x7 v4 z6.2 h hk9
def F7_ending_26  (v1 : Int32) (v2 : Int32) (v3 : Int32) (v4 : Int32) (q : SQ) : Option (Int32 × SQ) := sx_loop (fun s15 => F7_ending_26b  v1 s15.1 s15.2.1 s15.2.2.1 s15.2.2.2) FU (v2, v3, v4, q)
set_option maxHeartbeats 400000 in
theorem F7_ending_26_ok (l : Launch)  {Q : Option Value → SQ → Prop} (v1 : Int32) (v2 : Int32) (v3 : Int32) (v4 : Int32) (q : SQ) {t : Int32 × SQ} (h : F7_ending_26  v1 v2 v3 v4 q = some t) (hk9 : Q (some (.int t.1)) t.2) : PF7_ending l Q 26 [(0, .ref 0), (1, .int v1), (2, .int v2), (3, .int v3), (4, .int v4)] [] q := by
  unfold F7_ending_26 at h
  have st : ∀ (s : Int32 × Int32 × Int32 × SQ) (res : (Int32 × Int32 × Int32 × SQ) ⊕ (Int32 × SQ)), F7_ending_26b  v1 s.1 s.2.1 s.2.2.1 s.2.2.2 = some res → (∀ s2, res = .inl s2 → PF7_ending l Q 26 [(0, .ref 0), (1, .int v1), (2, .int s2.1), (3, .int s2.2.1), (4, .int s2.2.2.1)] [] s2.2.2.2) → (∀ t2, res = .inr t2 → Q (some (.int t2.1)) t2.2) → PF7_ending l Q 26 [(0, .ref 0), (1, .int v1), (2, .int s.1), (3, .int s.2.1), (4, .int s.2.2.1)] [] s.2.2.2 :=
    fun s res hb hi ho => F7_ending_26b_ok l  v1 s.1 s.2.1 s.2.2.1 s.2.2.2 hb ⟨hi, ho⟩
  have h9 : PF7_ending l Q 26 [(0, .ref 0), (1, .int v1), (2, .int v2), (3, .int v3), (4, .int v4)] [] q := sx_lp (body := fun s => F7_ending_26b  v1 s.1 s.2.1 s.2.2.1 s.2.2.2) (P := fun s => PF7_ending l Q 26 [(0, .ref 0), (1, .int v1), (2, .int s.1), (3, .int s.2.1), (4, .int s.2.2.1)] [] s.2.2.2) (T := fun t => Q (some (.int t.1)) t.2) st FU (v2, v3, v4, q) t h hk9
  exact h9
def F7_ending  (v1 : Int32) (q : SQ) : Option (Int32 × SQ) :=
  sx_let (sI q 0 0 (0 : Int32)) (fun q1 => (F7_isDay  v1 q1).bind (fun z2 => (if z2.1 = 0 then some ((-1 : Int32), z2.2) else (F7_aside  (1 : Int32) z2.2).bind (fun z3 => F7_ending_26  v1 (0 : Int32) (-1 : Int32) (0 : Int32) z3.2))))
set_option maxHeartbeats 400000 in
theorem F7_ending_ok (l : Launch)  {Q : Option Value → SQ → Prop} (v1 : Int32) (q : SQ) {res : Int32 × SQ} (h : F7_ending  v1 q = some res) (hk9 : Q (some (.int res.1)) res.2) : PF7_ending l Q 0 [(0, .ref 0), (1, .int v1)] [] q := by
  unfold F7_ending at h
  refine sx_aload_n dX7_ending_0 rfl rfl ?_
  refine sx_iconst (v := (0 : Int32)) dX7_ending_1 (by decide) ?_
  obtain ⟨q1, eq1, h⟩ := sx_lt h
  refine sx_putI dX7_ending_2 (hs := shM_0) (k9 := 0) (hf := rfl) cb_X7 ⟨by decide, rfl, gw_799⟩ rfl (by decide) ?_
  refine sx_nmQ eq1 ?_
  refine sx_iload_n dX7_ending_5 rfl rfl ?_
  obtain ⟨z2, hz2, h⟩ := sx_bd h
  refine sx_callS (As := [.int v1]) (rest := []) KSM (F7_isDay_ck l  v1 q1 hz2) mi_X7_isDay gw_943 rfl gw_944 ⟨Nat.le_of_ble_eq_true rfl, Nat.le_of_ble_eq_true rfl⟩ (Nat.le_of_ble_eq_true rfl) dX7_ending_6 rfl ?_
  refine sx_if_ne (tgt := 14) dX7_ending_9 (by decide) (fun c9 => ?_) (fun c9 => ?_)
  · replace h := sx_in h c9
    refine sx_aload_n dX7_ending_14 rfl rfl ?_
    refine sx_iconst (v := (1 : Int32)) dX7_ending_15 (by decide) ?_
    obtain ⟨z3, hz3, h⟩ := sx_bd h
    refine sx_callV (o := 0) (As := [.int (1 : Int32)]) (rest := []) KSM (F7_aside_ck l  (1 : Int32) z2.2 hz3) mi_X7_aside gw_1021 rfl ⟨gw_1023, gw_52⟩ shM_0 rfl rfl ⟨Nat.le_of_ble_eq_true rfl, Nat.le_of_ble_eq_true rfl⟩ (Nat.le_of_ble_eq_true rfl) dX7_ending_16 rfl ?_
    refine sx_iconst (v := (0 : Int32)) dX7_ending_19 (by decide) ?_
    refine sx_istore_n (ls2 := [(2, .int (0 : Int32)), (0, .ref 0), (1, .int v1)]) dX7_ending_20 rfl (by decide) rfl ?_
    refine sx_iconst (v := (-1 : Int32)) dX7_ending_21 (by decide) ?_
    refine sx_istore_n (ls2 := [(3, .int (-1 : Int32)), (2, .int (0 : Int32)), (0, .ref 0), (1, .int v1)]) dX7_ending_22 rfl (by decide) rfl ?_
    refine sx_iconst (v := (0 : Int32)) dX7_ending_23 (by decide) ?_
    refine sx_istore (ls2 := [(4, .int (0 : Int32)), (3, .int (-1 : Int32)), (2, .int (0 : Int32)), (0, .ref 0), (1, .int v1)]) dX7_ending_24 (by decide) rfl ?_
    refine sx_locs [3, 4, 2, 1, 0] rfl ?_
    exact F7_ending_26_ok l  v1 (0 : Int32) (-1 : Int32) (0 : Int32) z3.2 h hk9
  · replace h := sx_ip h c9
    refine sx_iconst (v := (-1 : Int32)) dX7_ending_12 (by decide) ?_
    obtain rfl := Option.some.inj h
    exact sx_iret dX7_ending_13 rfl hk9
theorem F7_ending_ck (l : Launch)  (v1 : Int32) (q : SQ) {r : Int32 × SQ} (h : F7_ending  v1 q = some r) : CK shM vwCl KM tfM l yX7_ending cX7_ending 6 ((some .int)) 6 151 [.ref 0, .int v1] q (some (.int r.1)) r.2 :=
  CK.of mi_X7_ending (Nat.le_of_ble_eq_true rfl) (F7_ending_ok l  v1 q h ⟨rfl, rfl⟩)
theorem mi_X7_easy : sx_MI yX7_easy cX7_easy 4 ((some .int)) 0 := ⟨by decide, ⟨by decide, by decide, by decide +kernel⟩, gw_1036, gw_68⟩
abbrev PF7_easy (l : Launch) (Q : Option Value → SQ → Prop) : Nat → List (Nat × Value) → List Value → SQ → Prop := XX shM vwCl KM tfM l RX7 cX7_easy 4 ((some .int)) { frames := 4, cells := 0, slots := 0, locals := 99 } Q
def F7_easy_97  (v1 : Int32) (v3 : Int32) (s0 : Int32) (s1 : Int32) (q : SQ) : Option ((Int32 × Int32 × SQ) ⊕ (Int32 × SQ)) :=
  sx_let (s1 + s0) (fun x3 => sx_let (v3 + (1 : Int32)) (fun x4 => some (.inl (x3, x4, q))))
set_option maxHeartbeats 400000 in
theorem F7_easy_97_ok (l : Launch)  {Q : Option Value → SQ → Prop} (v1 : Int32) (v3 : Int32) (s0 : Int32) (s1 : Int32) (q : SQ) {res : (Int32 × Int32 × SQ) ⊕ (Int32 × SQ)} (h : F7_easy_97  v1 v3 s0 s1 q = some res) (hk9 : (∀ a5, res = .inl a5 → PF7_easy l Q 61 [(0, .ref 0), (1, .int v1), (2, .int a5.1), (3, .int a5.2.1)] [] a5.2.2) ∧ (∀ b6, res = .inr b6 → Q (some (.int b6.1)) b6.2)) : PF7_easy l Q 97 [(0, .ref 0), (1, .int v1), (3, .int v3)] [.int s0, .int s1] q := by
  unfold F7_easy_97 at h
  refine sx_iadd dX7_easy_97 ?_
  obtain ⟨x3, ex3, h⟩ := sx_lt h
  refine sx_nmI ex3 ?_
  refine sx_istore_n (ls2 := [(2, .int x3), (0, .ref 0), (1, .int v1), (3, .int v3)]) dX7_easy_98 rfl (by decide) rfl ?_
  obtain ⟨x4, ex4, h⟩ := sx_lt h
  refine sx_iinc (k9 := 3) (v := x4) (ls2 := [(3, .int x4), (2, .int x3), (0, .ref 0), (1, .int v1)]) dX7_easy_99 rfl (by rw [ex4, sx_ofI1]) (by decide) rfl ?_
  refine sx_goto (tgt := 61) dX7_easy_102 (by decide) ?_
  refine sx_locs [2, 3, 1, 0] rfl ?_
  exact hk9.1 (x3, x4, q) (Option.some.inj h).symm
def F7_easy_61b  (v1 : Int32) (v2 : Int32) (v3 : Int32) (q : SQ) : Option ((Int32 × Int32 × SQ) ⊕ (Int32 × SQ)) :=
  (if gI q 2 40 ≤ v3 then some (.inr (v2, q)) else (F7_choiceOf 4 v3 (gI q 4 0) q).bind (fun z2 => (if z2.1 = v1 then F7_easy_97  v1 v3 (1 : Int32) v2 z2.2 else F7_easy_97  v1 v3 (0 : Int32) v2 z2.2)))
set_option maxHeartbeats 400000 in
theorem F7_easy_61b_ok (l : Launch)  {Q : Option Value → SQ → Prop} (v1 : Int32) (v2 : Int32) (v3 : Int32) (q : SQ) {res : (Int32 × Int32 × SQ) ⊕ (Int32 × SQ)} (h : F7_easy_61b  v1 v2 v3 q = some res) (hk9 : (∀ a7, res = .inl a7 → PF7_easy l Q 61 [(0, .ref 0), (1, .int v1), (2, .int a7.1), (3, .int a7.2.1)] [] a7.2.2) ∧ (∀ b8, res = .inr b8 → Q (some (.int b8.1)) b8.2)) : PF7_easy l Q 61 [(0, .ref 0), (1, .int v1), (2, .int v2), (3, .int v3)] [] q := by
  unfold F7_easy_61b at h
  refine sx_iload_n dX7_easy_61 rfl rfl ?_
  refine sx_aload_n dX7_easy_62 rfl rfl ?_
  refine sx_getR dX7_easy_63 (hs := shM_0) (k9 := 9) (hf := rfl) cb_X7 ⟨by decide, rfl, gw_808⟩ ?_
  refine sx_bipush (v := (40 : Int32)) dX7_easy_66 (by decide) ?_
  refine sx_ialdC (j9 := 40) dX7_easy_68 shM_2 (fun _ _ => rfl) (by decide) (by decide) ?_
  refine sx_icmp_ge (tgt := 105) dX7_easy_69 (by decide) (fun c9 => ?_) (fun c9 => ?_)
  · replace h := sx_ip h c9
    refine sx_iload_n dX7_easy_105 rfl rfl ?_
    have hk9 := hk9.2 _ (Option.some.inj h).symm
    exact sx_iret dX7_easy_106 rfl hk9
  · replace h := sx_in h c9
    refine sx_iload_n dX7_easy_72 rfl rfl ?_
    refine sx_aload_n dX7_easy_73 rfl rfl ?_
    refine sx_aload_n dX7_easy_74 rfl rfl ?_
    refine sx_getR dX7_easy_75 (hs := shM_0) (k9 := 11) (hf := rfl) cb_X7 ⟨by decide, rfl, gw_810⟩ ?_
    refine sx_iload_n dX7_easy_78 rfl rfl ?_
    refine sx_aload_n dX7_easy_79 rfl rfl ?_
    refine sx_getR dX7_easy_80 (hs := shM_0) (k9 := 11) (hf := rfl) cb_X7 ⟨by decide, rfl, gw_810⟩ ?_
    refine sx_iconst (v := (0 : Int32)) dX7_easy_83 (by decide) ?_
    refine sx_ialdC (j9 := 0) dX7_easy_84 shM_4 (fun _ _ => rfl) (by decide) (by decide) ?_
    obtain ⟨z2, hz2, h⟩ := sx_bd h
    refine sx_callV (o := 0) (As := [.ref 4, .int v3, .int (gI q 4 0)]) (rest := [.int v2]) KSM (F7_choiceOf_ck l 4 shM_4 v3 (gI q 4 0) q hz2) mi_X7_choiceOf gw_974 rfl ⟨gw_976, gw_47⟩ shM_0 rfl rfl ⟨Nat.le_of_ble_eq_true rfl, Nat.le_of_ble_eq_true rfl⟩ (Nat.le_of_ble_eq_true rfl) dX7_easy_85 rfl ?_
    refine sx_iload_n dX7_easy_88 rfl rfl ?_
    refine sx_icmp_ne (tgt := 96) dX7_easy_89 (by decide) (fun c9 => ?_) (fun c9 => ?_)
    · replace h := sx_in h c9
      refine sx_iconst (v := (0 : Int32)) dX7_easy_96 (by decide) ?_
      refine sx_locs [0, 1, 3] rfl ?_
      exact F7_easy_97_ok l  v1 v3 (0 : Int32) v2 z2.2 h hk9
    · replace h := sx_ip h c9
      refine sx_iconst (v := (1 : Int32)) dX7_easy_92 (by decide) ?_
      refine sx_goto (tgt := 97) dX7_easy_93 (by decide) ?_
      refine sx_locs [0, 1, 3] rfl ?_
      exact F7_easy_97_ok l  v1 v3 (1 : Int32) v2 z2.2 h hk9
def F7_easy_61  (v1 : Int32) (v2 : Int32) (v3 : Int32) (q : SQ) : Option (Int32 × SQ) := sx_loop (fun s9 => F7_easy_61b  v1 s9.1 s9.2.1 s9.2.2) FU (v2, v3, q)
set_option maxHeartbeats 400000 in
theorem F7_easy_61_ok (l : Launch)  {Q : Option Value → SQ → Prop} (v1 : Int32) (v2 : Int32) (v3 : Int32) (q : SQ) {t : Int32 × SQ} (h : F7_easy_61  v1 v2 v3 q = some t) (hk9 : Q (some (.int t.1)) t.2) : PF7_easy l Q 61 [(0, .ref 0), (1, .int v1), (2, .int v2), (3, .int v3)] [] q := by
  unfold F7_easy_61 at h
  have st : ∀ (s : Int32 × Int32 × SQ) (res : (Int32 × Int32 × SQ) ⊕ (Int32 × SQ)), F7_easy_61b  v1 s.1 s.2.1 s.2.2 = some res → (∀ s2, res = .inl s2 → PF7_easy l Q 61 [(0, .ref 0), (1, .int v1), (2, .int s2.1), (3, .int s2.2.1)] [] s2.2.2) → (∀ t2, res = .inr t2 → Q (some (.int t2.1)) t2.2) → PF7_easy l Q 61 [(0, .ref 0), (1, .int v1), (2, .int s.1), (3, .int s.2.1)] [] s.2.2 :=
    fun s res hb hi ho => F7_easy_61b_ok l  v1 s.1 s.2.1 s.2.2 hb ⟨hi, ho⟩
  have h9 : PF7_easy l Q 61 [(0, .ref 0), (1, .int v1), (2, .int v2), (3, .int v3)] [] q := sx_lp (body := fun s => F7_easy_61b  v1 s.1 s.2.1 s.2.2) (P := fun s => PF7_easy l Q 61 [(0, .ref 0), (1, .int v1), (2, .int s.1), (3, .int s.2.1)] [] s.2.2) (T := fun t => Q (some (.int t.1)) t.2) st FU (v2, v3, q) t h hk9
  exact h9
def F7_easy_50  (v2 : Int32) (s0 : Int32) (q : SQ) : Option ((Int32 × Int32 × SQ) ⊕ (Int32 × SQ)) :=
  sx_let (v2 + (1 : Int32)) (fun x10 => some (.inl (s0, x10, q)))
set_option maxHeartbeats 400000 in
theorem F7_easy_50_ok (l : Launch)  {Q : Option Value → SQ → Prop} (v2 : Int32) (s0 : Int32) (q : SQ) {res : (Int32 × Int32 × SQ) ⊕ (Int32 × SQ)} (h : F7_easy_50  v2 s0 q = some res) (hk9 : (∀ a11, res = .inl a11 → PF7_easy l Q 9 [(0, .ref 0), (1, .int a11.1), (2, .int a11.2.1)] [] a11.2.2) ∧ (∀ b12, res = .inr b12 → Q (some (.int b12.1)) b12.2)) : PF7_easy l Q 50 [(0, .ref 0), (2, .int v2)] [.int s0] q := by
  unfold F7_easy_50 at h
  refine sx_istore_n (ls2 := [(1, .int s0), (0, .ref 0), (2, .int v2)]) dX7_easy_50 rfl (by decide) rfl ?_
  obtain ⟨x10, ex10, h⟩ := sx_lt h
  refine sx_iinc (k9 := 2) (v := x10) (ls2 := [(2, .int x10), (1, .int s0), (0, .ref 0)]) dX7_easy_51 rfl (by rw [ex10, sx_ofI1]) (by decide) rfl ?_
  refine sx_goto (tgt := 9) dX7_easy_54 (by decide) ?_
  refine sx_locs [2, 1, 0] rfl ?_
  exact hk9.1 (s0, x10, q) (Option.some.inj h).symm
def F7_easy_9b  (v1 : Int32) (v2 : Int32) (q : SQ) : Option ((Int32 × Int32 × SQ) ⊕ (Int32 × SQ)) :=
  (if gI q 2 41 ≤ v2 then (F7_easy_61  v1 (0 : Int32) (0 : Int32) q).map .inr else (if sx_ix ((24 : Int32) + ((3 : Int32) * v2)) 84 = true then (if sx_ix ((24 : Int32) + ((3 : Int32) * v1)) 84 = true then (if gI q 2 ((24 : Int32) + ((3 : Int32) * v1)).toNatClampNeg ≤ gI q 2 ((24 : Int32) + ((3 : Int32) * v2)).toNatClampNeg then F7_easy_50  v2 v1 q else F7_easy_50  v2 v2 q) else none) else none))
set_option maxHeartbeats 400000 in
theorem F7_easy_9b_ok (l : Launch)  {Q : Option Value → SQ → Prop} (v1 : Int32) (v2 : Int32) (q : SQ) {res : (Int32 × Int32 × SQ) ⊕ (Int32 × SQ)} (h : F7_easy_9b  v1 v2 q = some res) (hk9 : (∀ a13, res = .inl a13 → PF7_easy l Q 9 [(0, .ref 0), (1, .int a13.1), (2, .int a13.2.1)] [] a13.2.2) ∧ (∀ b14, res = .inr b14 → Q (some (.int b14.1)) b14.2)) : PF7_easy l Q 9 [(0, .ref 0), (1, .int v1), (2, .int v2)] [] q := by
  unfold F7_easy_9b at h
  refine sx_iload_n dX7_easy_9 rfl rfl ?_
  refine sx_aload_n dX7_easy_10 rfl rfl ?_
  refine sx_getR dX7_easy_11 (hs := shM_0) (k9 := 9) (hf := rfl) cb_X7 ⟨by decide, rfl, gw_808⟩ ?_
  refine sx_bipush (v := (41 : Int32)) dX7_easy_14 (by decide) ?_
  refine sx_ialdC (j9 := 41) dX7_easy_16 shM_2 (fun _ _ => rfl) (by decide) (by decide) ?_
  refine sx_icmp_ge (tgt := 57) dX7_easy_17 (by decide) (fun c9 => ?_) (fun c9 => ?_)
  · replace h := sx_ip h c9
    refine sx_iconst (v := (0 : Int32)) dX7_easy_57 (by decide) ?_
    refine sx_istore_n (ls2 := [(2, .int (0 : Int32)), (0, .ref 0), (1, .int v1)]) dX7_easy_58 rfl (by decide) rfl ?_
    refine sx_iconst (v := (0 : Int32)) dX7_easy_59 (by decide) ?_
    refine sx_istore_n (ls2 := [(3, .int (0 : Int32)), (2, .int (0 : Int32)), (0, .ref 0), (1, .int v1)]) dX7_easy_60 rfl (by decide) rfl ?_
    obtain ⟨t9, h, hr9⟩ := sx_mp h
    have hk9 := hk9.2 _ hr9
    refine sx_locs [2, 3, 1, 0] rfl ?_
    exact F7_easy_61_ok l  v1 (0 : Int32) (0 : Int32) q h hk9
  · replace h := sx_in h c9
    refine sx_aload_n dX7_easy_20 rfl rfl ?_
    refine sx_getR dX7_easy_21 (hs := shM_0) (k9 := 9) (hf := rfl) cb_X7 ⟨by decide, rfl, gw_808⟩ ?_
    refine sx_bipush (v := (24 : Int32)) dX7_easy_24 (by decide) ?_
    refine sx_iconst (v := (3 : Int32)) dX7_easy_26 (by decide) ?_
    refine sx_iload_n dX7_easy_27 rfl rfl ?_
    refine sx_imul dX7_easy_28 ?_
    refine sx_iadd dX7_easy_29 ?_
    obtain ⟨g9, h⟩ := sx_gd h
    refine sx_iald dX7_easy_30 shM_2 (fun _ _ => rfl) (sx_ix_in g9) ?_
    refine sx_aload_n dX7_easy_31 rfl rfl ?_
    refine sx_getR dX7_easy_32 (hs := shM_0) (k9 := 9) (hf := rfl) cb_X7 ⟨by decide, rfl, gw_808⟩ ?_
    refine sx_bipush (v := (24 : Int32)) dX7_easy_35 (by decide) ?_
    refine sx_iconst (v := (3 : Int32)) dX7_easy_37 (by decide) ?_
    refine sx_iload_n dX7_easy_38 rfl rfl ?_
    refine sx_imul dX7_easy_39 ?_
    refine sx_iadd dX7_easy_40 ?_
    obtain ⟨g9, h⟩ := sx_gd h
    refine sx_iald dX7_easy_41 shM_2 (fun _ _ => rfl) (sx_ix_in g9) ?_
    refine sx_icmp_ge (tgt := 49) dX7_easy_42 (by decide) (fun c9 => ?_) (fun c9 => ?_)
    · replace h := sx_ip h c9
      refine sx_iload_n dX7_easy_49 rfl rfl ?_
      refine sx_locs [0, 2] rfl ?_
      exact F7_easy_50_ok l  v2 v1 q h hk9
    · replace h := sx_in h c9
      refine sx_iload_n dX7_easy_45 rfl rfl ?_
      refine sx_goto (tgt := 50) dX7_easy_46 (by decide) ?_
      refine sx_locs [0, 2] rfl ?_
      exact F7_easy_50_ok l  v2 v2 q h hk9
def F7_easy_9  (v1 : Int32) (v2 : Int32) (q : SQ) : Option (Int32 × SQ) := sx_loop (fun s15 => F7_easy_9b  s15.1 s15.2.1 s15.2.2) FU (v1, v2, q)
set_option maxHeartbeats 400000 in
theorem F7_easy_9_ok (l : Launch)  {Q : Option Value → SQ → Prop} (v1 : Int32) (v2 : Int32) (q : SQ) {t : Int32 × SQ} (h : F7_easy_9  v1 v2 q = some t) (hk9 : Q (some (.int t.1)) t.2) : PF7_easy l Q 9 [(0, .ref 0), (1, .int v1), (2, .int v2)] [] q := by
  unfold F7_easy_9 at h
  have st : ∀ (s : Int32 × Int32 × SQ) (res : (Int32 × Int32 × SQ) ⊕ (Int32 × SQ)), F7_easy_9b  s.1 s.2.1 s.2.2 = some res → (∀ s2, res = .inl s2 → PF7_easy l Q 9 [(0, .ref 0), (1, .int s2.1), (2, .int s2.2.1)] [] s2.2.2) → (∀ t2, res = .inr t2 → Q (some (.int t2.1)) t2.2) → PF7_easy l Q 9 [(0, .ref 0), (1, .int s.1), (2, .int s.2.1)] [] s.2.2 :=
    fun s res hb hi ho => F7_easy_9b_ok l  s.1 s.2.1 s.2.2 hb ⟨hi, ho⟩
  have h9 : PF7_easy l Q 9 [(0, .ref 0), (1, .int v1), (2, .int v2)] [] q := sx_lp (body := fun s => F7_easy_9b  s.1 s.2.1 s.2.2) (P := fun s => PF7_easy l Q 9 [(0, .ref 0), (1, .int s.1), (2, .int s.2.1)] [] s.2.2) (T := fun t => Q (some (.int t.1)) t.2) st FU (v1, v2, q) t h hk9
  exact h9
def F7_easy   (q : SQ) : Option (Int32 × SQ) :=
  sx_let (sI q 0 0 (0 : Int32)) (fun q1 => F7_easy_9  (0 : Int32) (1 : Int32) q1)
set_option maxHeartbeats 400000 in
theorem F7_easy_ok (l : Launch)  {Q : Option Value → SQ → Prop}  (q : SQ) {res : Int32 × SQ} (h : F7_easy   q = some res) (hk9 : Q (some (.int res.1)) res.2) : PF7_easy l Q 0 [(0, .ref 0)] [] q := by
  unfold F7_easy at h
  refine sx_aload_n dX7_easy_0 rfl rfl ?_
  refine sx_iconst (v := (0 : Int32)) dX7_easy_1 (by decide) ?_
  obtain ⟨q1, eq1, h⟩ := sx_lt h
  refine sx_putI dX7_easy_2 (hs := shM_0) (k9 := 0) (hf := rfl) cb_X7 ⟨by decide, rfl, gw_799⟩ rfl (by decide) ?_
  refine sx_nmQ eq1 ?_
  refine sx_iconst (v := (0 : Int32)) dX7_easy_5 (by decide) ?_
  refine sx_istore_n (ls2 := [(1, .int (0 : Int32)), (0, .ref 0)]) dX7_easy_6 rfl (by decide) rfl ?_
  refine sx_iconst (v := (1 : Int32)) dX7_easy_7 (by decide) ?_
  refine sx_istore_n (ls2 := [(2, .int (1 : Int32)), (1, .int (0 : Int32)), (0, .ref 0)]) dX7_easy_8 rfl (by decide) rfl ?_
  refine sx_locs [2, 1, 0] rfl ?_
  exact F7_easy_9_ok l  (0 : Int32) (1 : Int32) q1 h hk9
theorem F7_easy_ck (l : Launch)   (q : SQ) {r : Int32 × SQ} (h : F7_easy   q = some r) : CK shM vwCl KM tfM l yX7_easy cX7_easy 4 ((some .int)) 4 99 [.ref 0] q (some (.int r.1)) r.2 :=
  CK.of mi_X7_easy (Nat.le_of_ble_eq_true rfl) (F7_easy_ok l   q h ⟨rfl, rfl⟩)
