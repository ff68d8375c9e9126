theorem mi_X6_go : sx_MI yX6_go cX6_go 4 ((some .int)) 1 := ⟨by decide, ⟨by decide, by decide, by decide +kernel⟩, gw_558, gw_60⟩
abbrev PF6_go (l : Launch) (Q : Option Value → SQ → Prop) : Nat → List (Nat × Value) → List Value → SQ → Prop := XX shX vwCl KX tfX l RX6 cX6_go 4 ((some .int)) { frames := 5, cells := 0, slots := 0, locals := 125 } Q
def F6_go_44b  (v2 : Int32) (v3 : Int32) (q : SQ) : Option ((Int32 × SQ) ⊕ (Int32 × SQ)) :=
  (if v2 ≤ v3 then some (.inr (v2, q)) else (F0_pass 19 1  q).bind (fun z3 => sx_let (v3 + (1 : Int32)) (fun x4 => some (.inl (x4, z3.2)))))
set_option maxHeartbeats 400000 in
theorem F6_go_44b_ok (l : Launch)  {Q : Option Value → SQ → Prop} (v2 : Int32) (v3 : Int32) (q : SQ) {res : (Int32 × SQ) ⊕ (Int32 × SQ)} (h : F6_go_44b  v2 v3 q = some res) (hk9 : (∀ a5, res = .inl a5 → PF6_go l Q 44 [(0, .ref 0), (2, .int v2), (3, .int a5.1)] [] a5.2) ∧ (∀ b6, res = .inr b6 → Q (some (.int b6.1)) b6.2)) : PF6_go l Q 44 [(0, .ref 0), (2, .int v2), (3, .int v3)] [] q := by
  unfold F6_go_44b at h
  refine sx_iload_n dX6_go_44 rfl rfl ?_
  refine sx_iload_n dX6_go_45 rfl rfl ?_
  refine sx_icmp_ge (tgt := 71) dX6_go_46 (by decide) (fun c9 => ?_) (fun c9 => ?_)
  · replace h := sx_ip h c9
    refine sx_iload_n dX6_go_71 rfl rfl ?_
    have hk9 := hk9.2 _ (Option.some.inj h).symm
    exact sx_iret dX6_go_72 rfl hk9
  · replace h := sx_in h c9
    refine sx_aload_n dX6_go_49 rfl rfl ?_
    refine sx_getR dX6_go_50 (hs := shX_0) (k9 := 2) (hf := rfl) cb_X6 ⟨by decide, rfl, gw_294⟩ ?_
    refine sx_aload_n dX6_go_53 rfl rfl ?_
    refine sx_getR dX6_go_54 (hs := shX_0) (k9 := 0) (hf := rfl) cb_X6 ⟨by decide, rfl, gw_292⟩ ?_
    refine sx_aload_n dX6_go_57 rfl rfl ?_
    refine sx_getR dX6_go_58 (hs := shX_0) (k9 := 3) (hf := rfl) cb_X6 ⟨by decide, rfl, gw_295⟩ ?_
    obtain ⟨z3, hz3, h⟩ := sx_bd h
    refine sx_callV (o := 19) (As := [.ref 1, .ref 23]) (rest := []) KSX (F0_pass_ck l 19 iCo_19 1 iSh_1  q hz3) mi_X0_pass gw_562 rfl ⟨gw_563, gw_564⟩ shX_19 rfl rfl ⟨Nat.le_of_ble_eq_true rfl, Nat.le_of_ble_eq_true rfl⟩ (Nat.le_of_ble_eq_true rfl) dX6_go_61 rfl ?_
    refine sx_pop dX6_go_64 rfl ?_
    obtain ⟨x4, ex4, h⟩ := sx_lt h
    refine sx_iinc (k9 := 2) (v := x4) (ls2 := [(3, .int x4), (0, .ref 0), (2, .int v2)]) dX6_go_65 rfl (by rw [ex4, sx_ofI1]) (by decide) rfl ?_
    refine sx_goto (tgt := 44) dX6_go_68 (by decide) ?_
    refine sx_locs [1, 2, 0] rfl ?_
    exact hk9.1 (x4, z3.2) (Option.some.inj h).symm
def F6_go_44  (v2 : Int32) (v3 : Int32) (q : SQ) : Option (Int32 × SQ) := sx_loop (fun s7 => F6_go_44b  v2 s7.1 s7.2) FU (v3, q)
set_option maxHeartbeats 400000 in
theorem F6_go_44_ok (l : Launch)  {Q : Option Value → SQ → Prop} (v2 : Int32) (v3 : Int32) (q : SQ) {t : Int32 × SQ} (h : F6_go_44  v2 v3 q = some t) (hk9 : Q (some (.int t.1)) t.2) : PF6_go l Q 44 [(0, .ref 0), (2, .int v2), (3, .int v3)] [] q := by
  unfold F6_go_44 at h
  have st : ∀ (s : Int32 × SQ) (res : (Int32 × SQ) ⊕ (Int32 × SQ)), F6_go_44b  v2 s.1 s.2 = some res → (∀ s2, res = .inl s2 → PF6_go l Q 44 [(0, .ref 0), (2, .int v2), (3, .int s2.1)] [] s2.2) → (∀ t2, res = .inr t2 → Q (some (.int t2.1)) t2.2) → PF6_go l Q 44 [(0, .ref 0), (2, .int v2), (3, .int s.1)] [] s.2 :=
    fun s res hb hi ho => F6_go_44b_ok l  v2 s.1 s.2 hb ⟨hi, ho⟩
  have h9 : PF6_go l Q 44 [(0, .ref 0), (2, .int v2), (3, .int v3)] [] q := sx_lp (body := fun s => F6_go_44b  v2 s.1 s.2) (P := fun s => PF6_go l Q 44 [(0, .ref 0), (2, .int v2), (3, .int s.1)] [] s.2) (T := fun t => Q (some (.int t.1)) t.2) st FU (v3, q) t h hk9
  exact h9
def F6_go  (v1 : Int32) (q : SQ) : Option (Int32 × SQ) :=
  (F6_within  v1 (1 : Int32) (99 : Int32) q).bind (fun z1 => (if z1.1 = 0 then some ((-1 : Int32), z1.2) else (if gI z1.2 19 0 < (99 : Int32) then sx_let (if (99 : Int32) - (gI z1.2 19 0) < v1 then (99 : Int32) - (gI z1.2 19 0) else v1) (fun x2 => F6_go_44  x2 (0 : Int32) z1.2) else some ((-2 : Int32), z1.2))))
set_option maxHeartbeats 400000 in
theorem F6_go_ok (l : Launch)  {Q : Option Value → SQ → Prop} (v1 : Int32) (q : SQ) {res : Int32 × SQ} (h : F6_go  v1 q = some res) (hk9 : Q (some (.int res.1)) res.2) : PF6_go l Q 0 [(0, .ref 0), (1, .int v1)] [] q := by
  unfold F6_go at h
  refine sx_iload_n dX6_go_0 rfl rfl ?_
  refine sx_iconst (v := (1 : Int32)) dX6_go_1 (by decide) ?_
  refine sx_bipush (v := (99 : Int32)) dX6_go_2 (by decide) ?_
  obtain ⟨z1, hz1, h⟩ := sx_bd h
  refine sx_callS (As := [.int v1, .int (1 : Int32), .int (99 : Int32)]) (rest := []) KSX (F6_within_ck l  v1 (1 : Int32) (99 : Int32) q hz1) mi_X6_within gw_333 rfl gw_334 ⟨Nat.le_of_ble_eq_true rfl, Nat.le_of_ble_eq_true rfl⟩ (Nat.le_of_ble_eq_true rfl) dX6_go_4 rfl ?_
  refine sx_if_ne (tgt := 12) dX6_go_7 (by decide) (fun c9 => ?_) (fun c9 => ?_)
  · replace h := sx_in h c9
    refine sx_aload_n dX6_go_12 rfl rfl ?_
    refine sx_getR dX6_go_13 (hs := shX_0) (k9 := 2) (hf := rfl) cb_X6 ⟨by decide, rfl, gw_294⟩ ?_
    refine sx_getI dX6_go_16 (hs := shX_19) (k9 := 0) (hf := rfl) cb_X0 ⟨by decide, rfl, gw_186⟩ ?_
    refine sx_bipush (v := (99 : Int32)) dX6_go_19 (by decide) ?_
    refine sx_icmp_lt (tgt := 27) dX6_go_21 (by decide) (fun c9 => ?_) (fun c9 => ?_)
    · replace h := sx_ip h c9
      refine sx_iload_n dX6_go_27 rfl rfl ?_
      refine sx_bipush (v := (99 : Int32)) dX6_go_28 (by decide) ?_
      refine sx_aload_n dX6_go_30 rfl rfl ?_
      refine sx_getR dX6_go_31 (hs := shX_0) (k9 := 2) (hf := rfl) cb_X6 ⟨by decide, rfl, gw_294⟩ ?_
      refine sx_getI dX6_go_34 (hs := shX_19) (k9 := 0) (hf := rfl) cb_X0 ⟨by decide, rfl, gw_186⟩ ?_
      refine sx_isub dX6_go_37 ?_
      refine sx_mmin dX6_go_38 gw_559 gw_mmin (by decide) (Nat.le_of_ble_eq_true rfl) ?_
      obtain ⟨x2, ex2, h⟩ := sx_lt h
      refine sx_nmI ex2 ?_
      refine sx_istore_n (ls2 := [(2, .int x2), (0, .ref 0), (1, .int v1)]) dX6_go_41 rfl (by decide) rfl ?_
      refine sx_iconst (v := (0 : Int32)) dX6_go_42 (by decide) ?_
      refine sx_istore_n (ls2 := [(3, .int (0 : Int32)), (2, .int x2), (0, .ref 0), (1, .int v1)]) dX6_go_43 rfl (by decide) rfl ?_
      refine sx_locs [2, 1, 0] rfl ?_
      exact F6_go_44_ok l  x2 (0 : Int32) z1.2 h hk9
    · replace h := sx_in h c9
      refine sx_bipush (v := (-2 : Int32)) dX6_go_24 (by decide) ?_
      obtain rfl := Option.some.inj h
      exact sx_iret dX6_go_26 rfl hk9
  · replace h := sx_ip h c9
    refine sx_iconst (v := (-1 : Int32)) dX6_go_10 (by decide) ?_
    obtain rfl := Option.some.inj h
    exact sx_iret dX6_go_11 rfl hk9
theorem F6_go_ck (l : Launch)  (v1 : Int32) (q : SQ) {r : Int32 × SQ} (h : F6_go  v1 q = some r) : CK shX vwCl KX tfX l yX6_go cX6_go 4 ((some .int)) 5 125 [.ref 0, .int v1] q (some (.int r.1)) r.2 :=
  CK.of mi_X6_go (Nat.le_of_ble_eq_true rfl) (F6_go_ok l  v1 q h ⟨rfl, rfl⟩)
theorem mi_X0_sumOf : sx_MI yX0_sumOf cX0_sumOf 4 ((some .int)) 2 := ⟨by decide, ⟨by decide, by decide, by decide +kernel⟩, gw_590, gw_63⟩
abbrev PF0_sumOf (l : Launch) (Q : Option Value → SQ → Prop) : Nat → List (Nat × Value) → List Value → SQ → Prop := XX shX vwCl KX tfX l RX0 cX0_sumOf 4 ((some .int)) { frames := 0, cells := 0, slots := 0, locals := 0 } Q
def F0_sumOf_27 (r0 : Nat) (v2 : Int32) (q : SQ) : Option (Int32 × SQ) :=
  some (v2, q)
set_option maxHeartbeats 400000 in
theorem F0_sumOf_27_ok (l : Launch) (r0 : Nat) (hr0 : iA8 r0) {Q : Option Value → SQ → Prop} (v2 : Int32) (q : SQ) {res : Int32 × SQ} (h : F0_sumOf_27 r0 v2 q = some res) (hk9 : Q (some (.int res.1)) res.2) : PF0_sumOf l Q 27 [(2, .int v2)] [] q := by
  unfold F0_sumOf_27 at h
  refine sx_iload_n dX0_sumOf_27 rfl rfl ?_
  obtain rfl := Option.some.inj h
  exact sx_iret dX0_sumOf_28 rfl hk9
def F0_sumOf_4b (r0 : Nat) (v1 : Int32) (v2 : Int32) (v3 : Int32) (q : SQ) : Option ((Int32 × Int32 × SQ) ⊕ (Int32 × SQ)) :=
  (if v1 ≤ v3 then (F0_sumOf_27 r0 v2 q).map .inr else (if (8 : Int32) ≤ v3 then (F0_sumOf_27 r0 v2 q).map .inr else (if sx_ix v3 8 = true then sx_let (v2 + (gI q r0 v3.toNatClampNeg)) (fun x1 => sx_let (v3 + (1 : Int32)) (fun x2 => some (.inl (x1, x2, q)))) else none)))
set_option maxHeartbeats 400000 in
theorem F0_sumOf_4b_ok (l : Launch) (r0 : Nat) (hr0 : iA8 r0) {Q : Option Value → SQ → Prop} (v1 : Int32) (v2 : Int32) (v3 : Int32) (q : SQ) {res : (Int32 × Int32 × SQ) ⊕ (Int32 × SQ)} (h : F0_sumOf_4b r0 v1 v2 v3 q = some res) (hk9 : (∀ a3, res = .inl a3 → PF0_sumOf l Q 4 [(0, .ref r0), (1, .int v1), (2, .int a3.1), (3, .int a3.2.1)] [] a3.2.2) ∧ (∀ b4, res = .inr b4 → Q (some (.int b4.1)) b4.2)) : PF0_sumOf l Q 4 [(0, .ref r0), (1, .int v1), (2, .int v2), (3, .int v3)] [] q := by
  unfold F0_sumOf_4b at h
  refine sx_iload_n dX0_sumOf_4 rfl rfl ?_
  refine sx_iload_n dX0_sumOf_5 rfl rfl ?_
  refine sx_icmp_ge (tgt := 27) dX0_sumOf_6 (by decide) (fun c9 => ?_) (fun c9 => ?_)
  · replace h := sx_ip h c9
    obtain ⟨t9, h, hr9⟩ := sx_mp h
    have hk9 := hk9.2 _ hr9
    refine sx_locs [2] rfl ?_
    exact F0_sumOf_27_ok l r0 hr0 v2 q h hk9
  · replace h := sx_in h c9
    refine sx_iload_n dX0_sumOf_9 rfl rfl ?_
    refine sx_aload_n dX0_sumOf_10 rfl rfl ?_
    refine sx_alen (v := (8 : Int32)) dX0_sumOf_11 hr0 (fun _ _ => rfl) (by decide) ?_
    refine sx_icmp_ge (tgt := 27) dX0_sumOf_12 (by decide) (fun c9 => ?_) (fun c9 => ?_)
    · replace h := sx_ip h c9
      obtain ⟨t9, h, hr9⟩ := sx_mp h
      have hk9 := hk9.2 _ hr9
      refine sx_locs [2] rfl ?_
      exact F0_sumOf_27_ok l r0 hr0 v2 q h hk9
    · replace h := sx_in h c9
      refine sx_iload_n dX0_sumOf_15 rfl rfl ?_
      refine sx_aload_n dX0_sumOf_16 rfl rfl ?_
      refine sx_iload_n dX0_sumOf_17 rfl rfl ?_
      obtain ⟨g9, h⟩ := sx_gd h
      refine sx_iald dX0_sumOf_18 hr0 (fun _ _ => rfl) (sx_ix_in g9) ?_
      refine sx_iadd dX0_sumOf_19 ?_
      obtain ⟨x1, ex1, h⟩ := sx_lt h
      refine sx_nmI ex1 ?_
      refine sx_istore_n (ls2 := [(2, .int x1), (0, .ref r0), (1, .int v1), (3, .int v3)]) dX0_sumOf_20 rfl (by decide) rfl ?_
      obtain ⟨x2, ex2, h⟩ := sx_lt h
      refine sx_iinc (k9 := 3) (v := x2) (ls2 := [(3, .int x2), (2, .int x1), (0, .ref r0), (1, .int v1)]) dX0_sumOf_21 rfl (by rw [ex2, sx_ofI1]) (by decide) rfl ?_
      refine sx_goto (tgt := 4) dX0_sumOf_24 (by decide) ?_
      refine sx_locs [2, 3, 1, 0] rfl ?_
      exact hk9.1 (x1, x2, q) (Option.some.inj h).symm
def F0_sumOf_4 (r0 : Nat) (v1 : Int32) (v2 : Int32) (v3 : Int32) (q : SQ) : Option (Int32 × SQ) := sx_loop (fun s5 => F0_sumOf_4b r0 v1 s5.1 s5.2.1 s5.2.2) FU (v2, v3, q)
set_option maxHeartbeats 400000 in
theorem F0_sumOf_4_ok (l : Launch) (r0 : Nat) (hr0 : iA8 r0) {Q : Option Value → SQ → Prop} (v1 : Int32) (v2 : Int32) (v3 : Int32) (q : SQ) {t : Int32 × SQ} (h : F0_sumOf_4 r0 v1 v2 v3 q = some t) (hk9 : Q (some (.int t.1)) t.2) : PF0_sumOf l Q 4 [(0, .ref r0), (1, .int v1), (2, .int v2), (3, .int v3)] [] q := by
  unfold F0_sumOf_4 at h
  have st : ∀ (s : Int32 × Int32 × SQ) (res : (Int32 × Int32 × SQ) ⊕ (Int32 × SQ)), F0_sumOf_4b r0 v1 s.1 s.2.1 s.2.2 = some res → (∀ s2, res = .inl s2 → PF0_sumOf l Q 4 [(0, .ref r0), (1, .int v1), (2, .int s2.1), (3, .int s2.2.1)] [] s2.2.2) → (∀ t2, res = .inr t2 → Q (some (.int t2.1)) t2.2) → PF0_sumOf l Q 4 [(0, .ref r0), (1, .int v1), (2, .int s.1), (3, .int s.2.1)] [] s.2.2 :=
    fun s res hb hi ho => F0_sumOf_4b_ok l r0 hr0 v1 s.1 s.2.1 s.2.2 hb ⟨hi, ho⟩
  have h9 : PF0_sumOf l Q 4 [(0, .ref r0), (1, .int v1), (2, .int v2), (3, .int v3)] [] q := sx_lp (body := fun s => F0_sumOf_4b r0 v1 s.1 s.2.1 s.2.2) (P := fun s => PF0_sumOf l Q 4 [(0, .ref r0), (1, .int v1), (2, .int s.1), (3, .int s.2.1)] [] s.2.2) (T := fun t => Q (some (.int t.1)) t.2) st FU (v2, v3, q) t h hk9
  exact h9
def F0_sumOf (r0 : Nat) (v1 : Int32) (q : SQ) : Option (Int32 × SQ) :=
  F0_sumOf_4 r0 v1 (0 : Int32) (0 : Int32) q
set_option maxHeartbeats 400000 in
theorem F0_sumOf_ok (l : Launch) (r0 : Nat) (hr0 : iA8 r0) {Q : Option Value → SQ → Prop} (v1 : Int32) (q : SQ) {res : Int32 × SQ} (h : F0_sumOf r0 v1 q = some res) (hk9 : Q (some (.int res.1)) res.2) : PF0_sumOf l Q 0 [(0, .ref r0), (1, .int v1)] [] q := by
  unfold F0_sumOf at h
  refine sx_iconst (v := (0 : Int32)) dX0_sumOf_0 (by decide) ?_
  refine sx_istore_n (ls2 := [(2, .int (0 : Int32)), (0, .ref r0), (1, .int v1)]) dX0_sumOf_1 rfl (by decide) rfl ?_
  refine sx_iconst (v := (0 : Int32)) dX0_sumOf_2 (by decide) ?_
  refine sx_istore_n (ls2 := [(3, .int (0 : Int32)), (2, .int (0 : Int32)), (0, .ref r0), (1, .int v1)]) dX0_sumOf_3 rfl (by decide) rfl ?_
  refine sx_locs [2, 3, 1, 0] rfl ?_
  exact F0_sumOf_4_ok l r0 hr0 v1 (0 : Int32) (0 : Int32) q h hk9
theorem F0_sumOf_ck (l : Launch) (r0 : Nat) (hr0 : iA8 r0) (v1 : Int32) (q : SQ) {r : Int32 × SQ} (h : F0_sumOf r0 v1 q = some r) : CK shX vwCl KX tfX l yX0_sumOf cX0_sumOf 4 ((some .int)) 0 0 [.ref r0, .int v1] q (some (.int r.1)) r.2 :=
  CK.of mi_X0_sumOf (Nat.le_of_ble_eq_true rfl) (F0_sumOf_ok l r0 hr0 v1 q h ⟨rfl, rfl⟩)
theorem mi_X6_now : sx_MI yX6_now cX6_now 2 ((some .int)) 1 := ⟨by decide, ⟨by decide, by decide, by decide +kernel⟩, gw_587, gw_60⟩
abbrev PF6_now (l : Launch) (Q : Option Value → SQ → Prop) : Nat → List (Nat × Value) → List Value → SQ → Prop := XX shX vwCl KX tfX l RX6 cX6_now 2 ((some .int)) { frames := 1, cells := 0, slots := 0, locals := 23 } Q
def F6_now  (v1 : Int32) (q : SQ) : Option (Int32 × SQ) :=
  (if v1 = (0 : Int32) then some (gI q 19 0, q) else (if v1 = (1 : Int32) then some (gI q 19 1, q) else (if v1 = (2 : Int32) then (F0_sumOf 20 (gI q 1 0) q).bind (fun z1 => some (z1.1, z1.2)) else (if v1 = (3 : Int32) then (F0_sumOf 21 (gI q 1 0) q).bind (fun z2 => some (z2.1, z2.2)) else (if v1 = (4 : Int32) then (F0_sumOf 22 (gI q 1 0) q).bind (fun z3 => some (z3.1, z3.2)) else some ((-1 : Int32), q))))))
set_option maxHeartbeats 400000 in
theorem F6_now_ok (l : Launch)  {Q : Option Value → SQ → Prop} (v1 : Int32) (q : SQ) {res : Int32 × SQ} (h : F6_now  v1 q = some res) (hk9 : Q (some (.int res.1)) res.2) : PF6_now l Q 0 [(0, .ref 0), (1, .int v1)] [] q := by
  unfold F6_now at h
  refine sx_iload_n dX6_now_0 rfl rfl ?_
  by_cases c9_0 : v1 = (0 : Int32)
  · replace h := sx_ip h c9_0
    refine sx_tblIn (tgt := 36) dX6_now_1 (by rw [c9_0]; decide) (by rw [c9_0]; decide) (by rw [c9_0]; rfl) (by decide) ?_
    refine sx_aload_n dX6_now_36 rfl rfl ?_
    refine sx_getR dX6_now_37 (hs := shX_0) (k9 := 2) (hf := rfl) cb_X6 ⟨by decide, rfl, gw_294⟩ ?_
    refine sx_getI dX6_now_40 (hs := shX_19) (k9 := 0) (hf := rfl) cb_X0 ⟨by decide, rfl, gw_186⟩ ?_
    obtain rfl := Option.some.inj h
    exact sx_iret dX6_now_43 rfl hk9
  · replace h := sx_in h c9_0
    by_cases c9_1 : v1 = (1 : Int32)
    · replace h := sx_ip h c9_1
      refine sx_tblIn (tgt := 44) dX6_now_1 (by rw [c9_1]; decide) (by rw [c9_1]; decide) (by rw [c9_1]; rfl) (by decide) ?_
      refine sx_aload_n dX6_now_44 rfl rfl ?_
      refine sx_getR dX6_now_45 (hs := shX_0) (k9 := 2) (hf := rfl) cb_X6 ⟨by decide, rfl, gw_294⟩ ?_
      refine sx_getI dX6_now_48 (hs := shX_19) (k9 := 1) (hf := rfl) cb_X0 ⟨by decide, rfl, gw_188⟩ ?_
      obtain rfl := Option.some.inj h
      exact sx_iret dX6_now_51 rfl hk9
    · replace h := sx_in h c9_1
      by_cases c9_2 : v1 = (2 : Int32)
      · replace h := sx_ip h c9_2
        refine sx_tblIn (tgt := 52) dX6_now_1 (by rw [c9_2]; decide) (by rw [c9_2]; decide) (by rw [c9_2]; rfl) (by decide) ?_
        refine sx_aload_n dX6_now_52 rfl rfl ?_
        refine sx_getR dX6_now_53 (hs := shX_0) (k9 := 2) (hf := rfl) cb_X6 ⟨by decide, rfl, gw_294⟩ ?_
        refine sx_getR dX6_now_56 (hs := shX_19) (k9 := 2) (hf := rfl) cb_X0 ⟨by decide, rfl, gw_190⟩ ?_
        refine sx_aload_n dX6_now_59 rfl rfl ?_
        refine sx_getR dX6_now_60 (hs := shX_0) (k9 := 0) (hf := rfl) cb_X6 ⟨by decide, rfl, gw_292⟩ ?_
        refine sx_getI dX6_now_63 (hs := shX_1) (k9 := 0) (hf := rfl) cb_X4 ⟨by decide, rfl, gw_90⟩ ?_
        obtain ⟨z1, hz1, h⟩ := sx_bd h
        refine sx_callS (As := [.ref 20, .int (gI q 1 0)]) (rest := []) KSX (F0_sumOf_ck l 20 shX_20 (gI q 1 0) q hz1) mi_X0_sumOf gw_588 rfl gw_589 ⟨Nat.le_of_ble_eq_true rfl, Nat.le_of_ble_eq_true rfl⟩ (Nat.le_of_ble_eq_true rfl) dX6_now_66 rfl ?_
        obtain rfl := Option.some.inj h
        exact sx_iret dX6_now_69 rfl hk9
      · replace h := sx_in h c9_2
        by_cases c9_3 : v1 = (3 : Int32)
        · replace h := sx_ip h c9_3
          refine sx_tblIn (tgt := 70) dX6_now_1 (by rw [c9_3]; decide) (by rw [c9_3]; decide) (by rw [c9_3]; rfl) (by decide) ?_
          refine sx_aload_n dX6_now_70 rfl rfl ?_
          refine sx_getR dX6_now_71 (hs := shX_0) (k9 := 2) (hf := rfl) cb_X6 ⟨by decide, rfl, gw_294⟩ ?_
          refine sx_getR dX6_now_74 (hs := shX_19) (k9 := 3) (hf := rfl) cb_X0 ⟨by decide, rfl, gw_192⟩ ?_
          refine sx_aload_n dX6_now_77 rfl rfl ?_
          refine sx_getR dX6_now_78 (hs := shX_0) (k9 := 0) (hf := rfl) cb_X6 ⟨by decide, rfl, gw_292⟩ ?_
          refine sx_getI dX6_now_81 (hs := shX_1) (k9 := 0) (hf := rfl) cb_X4 ⟨by decide, rfl, gw_90⟩ ?_
          obtain ⟨z2, hz2, h⟩ := sx_bd h
          refine sx_callS (As := [.ref 21, .int (gI q 1 0)]) (rest := []) KSX (F0_sumOf_ck l 21 shX_21 (gI q 1 0) q hz2) mi_X0_sumOf gw_588 rfl gw_589 ⟨Nat.le_of_ble_eq_true rfl, Nat.le_of_ble_eq_true rfl⟩ (Nat.le_of_ble_eq_true rfl) dX6_now_84 rfl ?_
          obtain rfl := Option.some.inj h
          exact sx_iret dX6_now_87 rfl hk9
        · replace h := sx_in h c9_3
          by_cases c9_4 : v1 = (4 : Int32)
          · replace h := sx_ip h c9_4
            refine sx_tblIn (tgt := 88) dX6_now_1 (by rw [c9_4]; decide) (by rw [c9_4]; decide) (by rw [c9_4]; rfl) (by decide) ?_
            refine sx_aload_n dX6_now_88 rfl rfl ?_
            refine sx_getR dX6_now_89 (hs := shX_0) (k9 := 2) (hf := rfl) cb_X6 ⟨by decide, rfl, gw_294⟩ ?_
            refine sx_getR dX6_now_92 (hs := shX_19) (k9 := 4) (hf := rfl) cb_X0 ⟨by decide, rfl, gw_194⟩ ?_
            refine sx_aload_n dX6_now_95 rfl rfl ?_
            refine sx_getR dX6_now_96 (hs := shX_0) (k9 := 0) (hf := rfl) cb_X6 ⟨by decide, rfl, gw_292⟩ ?_
            refine sx_getI dX6_now_99 (hs := shX_1) (k9 := 0) (hf := rfl) cb_X4 ⟨by decide, rfl, gw_90⟩ ?_
            obtain ⟨z3, hz3, h⟩ := sx_bd h
            refine sx_callS (As := [.ref 22, .int (gI q 1 0)]) (rest := []) KSX (F0_sumOf_ck l 22 shX_22 (gI q 1 0) q hz3) mi_X0_sumOf gw_588 rfl gw_589 ⟨Nat.le_of_ble_eq_true rfl, Nat.le_of_ble_eq_true rfl⟩ (Nat.le_of_ble_eq_true rfl) dX6_now_102 rfl ?_
            obtain rfl := Option.some.inj h
            exact sx_iret dX6_now_105 rfl hk9
          · replace h := sx_in h c9_4
            have n0 := lv_neT c9_0 (a := 0) (by decide)
            have n1 := lv_neT c9_1 (a := 1) (by decide)
            have n2 := lv_neT c9_2 (a := 2) (by decide)
            have n3 := lv_neT c9_3 (a := 3) (by decide)
            have n4 := lv_neT c9_4 (a := 4) (by decide)
            refine sx_tblOut (tgt := 106) dX6_now_1 (by omega) (by decide) ?_
            refine sx_iconst (v := (-1 : Int32)) dX6_now_106 (by decide) ?_
            obtain rfl := Option.some.inj h
            exact sx_iret dX6_now_107 rfl hk9
theorem F6_now_ck (l : Launch)  (v1 : Int32) (q : SQ) {r : Int32 × SQ} (h : F6_now  v1 q = some r) : CK shX vwCl KX tfX l yX6_now cX6_now 2 ((some .int)) 1 23 [.ref 0, .int v1] q (some (.int r.1)) r.2 :=
  CK.of mi_X6_now (Nat.le_of_ble_eq_true rfl) (F6_now_ok l  v1 q h ⟨rfl, rfl⟩)
theorem mi_X6_anew : sx_MI yX6_anew cX6_anew 2 ((some .int)) 0 := ⟨by decide, ⟨by decide, by decide, by decide +kernel⟩, gw_594, gw_60⟩
abbrev PF6_anew (l : Launch) (Q : Option Value → SQ → Prop) : Nat → List (Nat × Value) → List Value → SQ → Prop := XX shX vwCl KX tfX l RX6 cX6_anew 2 ((some .int)) { frames := 1, cells := 0, slots := 0, locals := 23 } Q
def F6_anew   (q : SQ) : Option (Int32 × SQ) :=
  sx_let (gI q 19 0) (fun x1 => (F0_begin 19 1 (0 : Int32) q).bind (fun z2 => some (x1, z2.2)))
set_option maxHeartbeats 400000 in
theorem F6_anew_ok (l : Launch)  {Q : Option Value → SQ → Prop}  (q : SQ) {res : Int32 × SQ} (h : F6_anew   q = some res) (hk9 : Q (some (.int res.1)) res.2) : PF6_anew l Q 0 [(0, .ref 0)] [] q := by
  unfold F6_anew at h
  refine sx_aload_n dX6_anew_0 rfl rfl ?_
  refine sx_getR dX6_anew_1 (hs := shX_0) (k9 := 2) (hf := rfl) cb_X6 ⟨by decide, rfl, gw_294⟩ ?_
  refine sx_getI dX6_anew_4 (hs := shX_19) (k9 := 0) (hf := rfl) cb_X0 ⟨by decide, rfl, gw_186⟩ ?_
  obtain ⟨x1, ex1, h⟩ := sx_lt h
  refine sx_nmI ex1 ?_
  refine sx_istore_n (ls2 := [(1, .int x1), (0, .ref 0)]) dX6_anew_7 rfl (by decide) rfl ?_
  refine sx_aload_n dX6_anew_8 rfl rfl ?_
  refine sx_getR dX6_anew_9 (hs := shX_0) (k9 := 2) (hf := rfl) cb_X6 ⟨by decide, rfl, gw_294⟩ ?_
  refine sx_aload_n dX6_anew_12 rfl rfl ?_
  refine sx_getR dX6_anew_13 (hs := shX_0) (k9 := 0) (hf := rfl) cb_X6 ⟨by decide, rfl, gw_292⟩ ?_
  refine sx_iconst (v := (0 : Int32)) dX6_anew_16 (by decide) ?_
  obtain ⟨z2, hz2, h⟩ := sx_bd h
  refine sx_callV (o := 19) (As := [.ref 1, .int (0 : Int32)]) (rest := []) KSX (F0_begin_ck l 19 iCo_19 1 iSh_1 (0 : Int32) q hz2) mi_X0_begin gw_288 rfl ⟨gw_289, gw_290⟩ shX_19 rfl rfl ⟨Nat.le_of_ble_eq_true rfl, Nat.le_of_ble_eq_true rfl⟩ (Nat.le_of_ble_eq_true rfl) dX6_anew_17 rfl ?_
  refine sx_iload_n dX6_anew_20 rfl rfl ?_
  obtain rfl := Option.some.inj h
  exact sx_iret dX6_anew_21 rfl hk9
theorem F6_anew_ck (l : Launch)   (q : SQ) {r : Int32 × SQ} (h : F6_anew   q = some r) : CK shX vwCl KX tfX l yX6_anew cX6_anew 2 ((some .int)) 1 23 [.ref 0] q (some (.int r.1)) r.2 :=
  CK.of mi_X6_anew (Nat.le_of_ble_eq_true rfl) (F6_anew_ok l   q h ⟨rfl, rfl⟩)
theorem mi_X6_pagesBetween : sx_MI yX6_pagesBetween cX6_pagesBetween 6 ((some .int)) 2 := ⟨by decide, ⟨by decide, by decide, by decide +kernel⟩, gw_602, gw_60⟩
abbrev PF6_pagesBetween (l : Launch) (Q : Option Value → SQ → Prop) : Nat → List (Nat × Value) → List Value → SQ → Prop := XX shX vwCl KX tfX l RX6 cX6_pagesBetween 6 ((some .int)) { frames := 5, cells := 0, slots := 0, locals := 125 } Q
def F6_pagesBetween_51  (v1 : Int32) (v2 : Int32) (v3 : Int32) (v4 : Int32) (q : SQ) : Option ((Int32 × Int32 × SQ) ⊕ (Int32 × SQ)) :=
  sx_let (v4 + (1 : Int32)) (fun x4 => some (.inl (v3, x4, q)))
set_option maxHeartbeats 400000 in
theorem F6_pagesBetween_51_ok (l : Launch)  {Q : Option Value → SQ → Prop} (v1 : Int32) (v2 : Int32) (v3 : Int32) (v4 : Int32) (q : SQ) {res : (Int32 × Int32 × SQ) ⊕ (Int32 × SQ)} (h : F6_pagesBetween_51  v1 v2 v3 v4 q = some res) (hk9 : (∀ a5, res = .inl a5 → PF6_pagesBetween l Q 17 [(0, .ref 0), (1, .int v1), (2, .int v2), (3, .int a5.1), (4, .int a5.2.1)] [] a5.2.2) ∧ (∀ b6, res = .inr b6 → Q (some (.int b6.1)) b6.2)) : PF6_pagesBetween l Q 51 [(0, .ref 0), (1, .int v1), (2, .int v2), (3, .int v3), (4, .int v4)] [] q := by
  unfold F6_pagesBetween_51 at h
  obtain ⟨x4, ex4, h⟩ := sx_lt h
  refine sx_iinc (k9 := 4) (v := x4) (ls2 := [(4, .int x4), (0, .ref 0), (1, .int v1), (2, .int v2), (3, .int v3)]) dX6_pagesBetween_51 rfl (by rw [ex4, sx_ofI1]) (by decide) rfl ?_
  refine sx_goto (tgt := 17) dX6_pagesBetween_54 (by decide) ?_
  refine sx_locs [1, 2, 3, 4, 0] rfl ?_
  exact hk9.1 (v3, x4, q) (Option.some.inj h).symm
def F6_pagesBetween_17b  (v1 : Int32) (v2 : Int32) (v3 : Int32) (v4 : Int32) (q : SQ) : Option ((Int32 × Int32 × SQ) ⊕ (Int32 × SQ)) :=
  (if v2 ≤ v4 then some (.inr (v3, q)) else (F0_pass 48 41  q).bind (fun z2 => sx_let z2.1 (fun x3 => (if v4 < v1 then F6_pagesBetween_51  v1 v2 v3 v4 z2.2 else sx_let (v3 + x3) (fun x7 => F6_pagesBetween_51  v1 v2 x7 v4 z2.2)))))
set_option maxHeartbeats 400000 in
theorem F6_pagesBetween_17b_ok (l : Launch)  {Q : Option Value → SQ → Prop} (v1 : Int32) (v2 : Int32) (v3 : Int32) (v4 : Int32) (q : SQ) {res : (Int32 × Int32 × SQ) ⊕ (Int32 × SQ)} (h : F6_pagesBetween_17b  v1 v2 v3 v4 q = some res) (hk9 : (∀ a8, res = .inl a8 → PF6_pagesBetween l Q 17 [(0, .ref 0), (1, .int v1), (2, .int v2), (3, .int a8.1), (4, .int a8.2.1)] [] a8.2.2) ∧ (∀ b9, res = .inr b9 → Q (some (.int b9.1)) b9.2)) : PF6_pagesBetween l Q 17 [(0, .ref 0), (1, .int v1), (2, .int v2), (3, .int v3), (4, .int v4)] [] q := by
  unfold F6_pagesBetween_17b at h
  refine sx_iload dX6_pagesBetween_17 rfl ?_
  refine sx_iload_n dX6_pagesBetween_19 rfl rfl ?_
  refine sx_icmp_ge (tgt := 57) dX6_pagesBetween_20 (by decide) (fun c9 => ?_) (fun c9 => ?_)
  · replace h := sx_ip h c9
    refine sx_iload_n dX6_pagesBetween_57 rfl rfl ?_
    have hk9 := hk9.2 _ (Option.some.inj h).symm
    exact sx_iret dX6_pagesBetween_58 rfl hk9
  · replace h := sx_in h c9
    refine sx_aload_n dX6_pagesBetween_23 rfl rfl ?_
    refine sx_getR dX6_pagesBetween_24 (hs := shX_0) (k9 := 9) (hf := rfl) cb_X6 ⟨by decide, rfl, gw_301⟩ ?_
    refine sx_aload_n dX6_pagesBetween_27 rfl rfl ?_
    refine sx_getR dX6_pagesBetween_28 (hs := shX_0) (k9 := 8) (hf := rfl) cb_X6 ⟨by decide, rfl, gw_300⟩ ?_
    refine sx_aload_n dX6_pagesBetween_31 rfl rfl ?_
    refine sx_getR dX6_pagesBetween_32 (hs := shX_0) (k9 := 3) (hf := rfl) cb_X6 ⟨by decide, rfl, gw_295⟩ ?_
    obtain ⟨z2, hz2, h⟩ := sx_bd h
    refine sx_callV (o := 48) (As := [.ref 41, .ref 23]) (rest := []) KSX (F0_pass_ck l 48 iCo_48 41 iSh_41  q hz2) mi_X0_pass gw_562 rfl ⟨gw_563, gw_564⟩ shX_48 rfl rfl ⟨Nat.le_of_ble_eq_true rfl, Nat.le_of_ble_eq_true rfl⟩ (Nat.le_of_ble_eq_true rfl) dX6_pagesBetween_35 rfl ?_
    obtain ⟨x3, ex3, h⟩ := sx_lt h
    refine sx_nmI ex3 ?_
    refine sx_istore (ls2 := [(5, .int x3), (0, .ref 0), (1, .int v1), (2, .int v2), (3, .int v3), (4, .int v4)]) dX6_pagesBetween_38 (by decide) rfl ?_
    refine sx_iload dX6_pagesBetween_40 rfl ?_
    refine sx_iload_n dX6_pagesBetween_42 rfl rfl ?_
    refine sx_icmp_lt (tgt := 51) dX6_pagesBetween_43 (by decide) (fun c9 => ?_) (fun c9 => ?_)
    · replace h := sx_ip h c9
      refine sx_locs [1, 2, 3, 4, 5] rfl ?_
      exact F6_pagesBetween_51_ok l  v1 v2 v3 v4 z2.2 h hk9
    · replace h := sx_in h c9
      refine sx_iload_n dX6_pagesBetween_46 rfl rfl ?_
      refine sx_iload dX6_pagesBetween_47 rfl ?_
      refine sx_iadd dX6_pagesBetween_49 ?_
      obtain ⟨x7, ex7, h⟩ := sx_lt h
      refine sx_nmI ex7 ?_
      refine sx_istore_n (ls2 := [(3, .int x7), (5, .int x3), (0, .ref 0), (1, .int v1), (2, .int v2), (4, .int v4)]) dX6_pagesBetween_50 rfl (by decide) rfl ?_
      refine sx_locs [2, 3, 4, 0, 5] rfl ?_
      exact F6_pagesBetween_51_ok l  v1 v2 x7 v4 z2.2 h hk9
def F6_pagesBetween_17  (v1 : Int32) (v2 : Int32) (v3 : Int32) (v4 : Int32) (q : SQ) : Option (Int32 × SQ) := sx_loop (fun s10 => F6_pagesBetween_17b  v1 v2 s10.1 s10.2.1 s10.2.2) FU (v3, v4, q)
set_option maxHeartbeats 400000 in
theorem F6_pagesBetween_17_ok (l : Launch)  {Q : Option Value → SQ → Prop} (v1 : Int32) (v2 : Int32) (v3 : Int32) (v4 : Int32) (q : SQ) {t : Int32 × SQ} (h : F6_pagesBetween_17  v1 v2 v3 v4 q = some t) (hk9 : Q (some (.int t.1)) t.2) : PF6_pagesBetween l Q 17 [(0, .ref 0), (1, .int v1), (2, .int v2), (3, .int v3), (4, .int v4)] [] q := by
  unfold F6_pagesBetween_17 at h
  have st : ∀ (s : Int32 × Int32 × SQ) (res : (Int32 × Int32 × SQ) ⊕ (Int32 × SQ)), F6_pagesBetween_17b  v1 v2 s.1 s.2.1 s.2.2 = some res → (∀ s2, res = .inl s2 → PF6_pagesBetween l Q 17 [(0, .ref 0), (1, .int v1), (2, .int v2), (3, .int s2.1), (4, .int s2.2.1)] [] s2.2.2) → (∀ t2, res = .inr t2 → Q (some (.int t2.1)) t2.2) → PF6_pagesBetween l Q 17 [(0, .ref 0), (1, .int v1), (2, .int v2), (3, .int s.1), (4, .int s.2.1)] [] s.2.2 :=
    fun s res hb hi ho => F6_pagesBetween_17b_ok l  v1 v2 s.1 s.2.1 s.2.2 hb ⟨hi, ho⟩
  have h9 : PF6_pagesBetween l Q 17 [(0, .ref 0), (1, .int v1), (2, .int v2), (3, .int v3), (4, .int v4)] [] q := sx_lp (body := fun s => F6_pagesBetween_17b  v1 v2 s.1 s.2.1 s.2.2) (P := fun s => PF6_pagesBetween l Q 17 [(0, .ref 0), (1, .int v1), (2, .int v2), (3, .int s.1), (4, .int s.2.1)] [] s.2.2) (T := fun t => Q (some (.int t.1)) t.2) st FU (v3, v4, q) t h hk9
  exact h9
def F6_pagesBetween  (v1 : Int32) (v2 : Int32) (q : SQ) : Option (Int32 × SQ) :=
  (F0_begin 48 41 (0 : Int32) q).bind (fun z1 => F6_pagesBetween_17  v1 v2 (0 : Int32) (0 : Int32) z1.2)
set_option maxHeartbeats 400000 in
theorem F6_pagesBetween_ok (l : Launch)  {Q : Option Value → SQ → Prop} (v1 : Int32) (v2 : Int32) (q : SQ) {res : Int32 × SQ} (h : F6_pagesBetween  v1 v2 q = some res) (hk9 : Q (some (.int res.1)) res.2) : PF6_pagesBetween l Q 0 [(0, .ref 0), (1, .int v1), (2, .int v2)] [] q := by
  unfold F6_pagesBetween at h
  refine sx_aload_n dX6_pagesBetween_0 rfl rfl ?_
  refine sx_getR dX6_pagesBetween_1 (hs := shX_0) (k9 := 9) (hf := rfl) cb_X6 ⟨by decide, rfl, gw_301⟩ ?_
  refine sx_aload_n dX6_pagesBetween_4 rfl rfl ?_
  refine sx_getR dX6_pagesBetween_5 (hs := shX_0) (k9 := 8) (hf := rfl) cb_X6 ⟨by decide, rfl, gw_300⟩ ?_
  refine sx_iconst (v := (0 : Int32)) dX6_pagesBetween_8 (by decide) ?_
  obtain ⟨z1, hz1, h⟩ := sx_bd h
  refine sx_callV (o := 48) (As := [.ref 41, .int (0 : Int32)]) (rest := []) KSX (F0_begin_ck l 48 iCo_48 41 iSh_41 (0 : Int32) q hz1) mi_X0_begin gw_288 rfl ⟨gw_289, gw_290⟩ shX_48 rfl rfl ⟨Nat.le_of_ble_eq_true rfl, Nat.le_of_ble_eq_true rfl⟩ (Nat.le_of_ble_eq_true rfl) dX6_pagesBetween_9 rfl ?_
  refine sx_iconst (v := (0 : Int32)) dX6_pagesBetween_12 (by decide) ?_
  refine sx_istore_n (ls2 := [(3, .int (0 : Int32)), (0, .ref 0), (1, .int v1), (2, .int v2)]) dX6_pagesBetween_13 rfl (by decide) rfl ?_
  refine sx_iconst (v := (0 : Int32)) dX6_pagesBetween_14 (by decide) ?_
  refine sx_istore (ls2 := [(4, .int (0 : Int32)), (3, .int (0 : Int32)), (0, .ref 0), (1, .int v1), (2, .int v2)]) dX6_pagesBetween_15 (by decide) rfl ?_
  refine sx_locs [2, 3, 4, 1, 0] rfl ?_
  exact F6_pagesBetween_17_ok l  v1 v2 (0 : Int32) (0 : Int32) z1.2 h hk9
theorem F6_pagesBetween_ck (l : Launch)  (v1 : Int32) (v2 : Int32) (q : SQ) {r : Int32 × SQ} (h : F6_pagesBetween  v1 v2 q = some r) : CK shX vwCl KX tfX l yX6_pagesBetween cX6_pagesBetween 6 ((some .int)) 5 125 [.ref 0, .int v1, .int v2] q (some (.int r.1)) r.2 :=
  CK.of mi_X6_pagesBetween (Nat.le_of_ble_eq_true rfl) (F6_pagesBetween_ok l  v1 v2 q h ⟨rfl, rfl⟩)
theorem mi_X6_term : sx_MI yX6_term cX6_term 3 ((some .int)) 1 := ⟨by decide, ⟨by decide, by decide, by decide +kernel⟩, gw_598, gw_60⟩
abbrev PF6_term (l : Launch) (Q : Option Value → SQ → Prop) : Nat → List (Nat × Value) → List Value → SQ → Prop := XX shX vwCl KX tfX l RX6 cX6_term 3 ((some .int)) { frames := 6, cells := 0, slots := 0, locals := 150 } Q
def F6_term_57   (q : SQ) : Option (Int32 × SQ) :=
  sx_let ((gI q 1 9) + (gI q 1 10)) (fun x3 => (F6_pagesBetween  x3 (if (99 : Int32) < x3 + (7 : Int32) then (99 : Int32) else x3 + (7 : Int32)) q).bind (fun z4 => some (z4.1, z4.2)))
set_option maxHeartbeats 400000 in
theorem F6_term_57_ok (l : Launch)  {Q : Option Value → SQ → Prop}  (q : SQ) {res : Int32 × SQ} (h : F6_term_57   q = some res) (hk9 : Q (some (.int res.1)) res.2) : PF6_term l Q 57 [(0, .ref 0)] [] q := by
  unfold F6_term_57 at h
  refine sx_aload_n dX6_term_57 rfl rfl ?_
  refine sx_getR dX6_term_58 (hs := shX_0) (k9 := 0) (hf := rfl) cb_X6 ⟨by decide, rfl, gw_292⟩ ?_
  refine sx_getI dX6_term_61 (hs := shX_1) (k9 := 9) (hf := rfl) cb_X4 ⟨by decide, rfl, gw_115⟩ ?_
  refine sx_aload_n dX6_term_64 rfl rfl ?_
  refine sx_getR dX6_term_65 (hs := shX_0) (k9 := 0) (hf := rfl) cb_X6 ⟨by decide, rfl, gw_292⟩ ?_
  refine sx_getI dX6_term_68 (hs := shX_1) (k9 := 10) (hf := rfl) cb_X4 ⟨by decide, rfl, gw_117⟩ ?_
  refine sx_iadd dX6_term_71 ?_
  obtain ⟨x3, ex3, h⟩ := sx_lt h
  refine sx_nmI ex3 ?_
  refine sx_istore_n (ls2 := [(2, .int x3), (0, .ref 0)]) dX6_term_72 rfl (by decide) rfl ?_
  refine sx_aload_n dX6_term_73 rfl rfl ?_
  refine sx_iload_n dX6_term_74 rfl rfl ?_
  refine sx_iload_n dX6_term_75 rfl rfl ?_
  refine sx_bipush (v := (7 : Int32)) dX6_term_76 (by decide) ?_
  refine sx_iadd dX6_term_78 ?_
  refine sx_bipush (v := (99 : Int32)) dX6_term_79 (by decide) ?_
  refine sx_mmin dX6_term_81 gw_559 gw_mmin (by decide) (Nat.le_of_ble_eq_true rfl) ?_
  obtain ⟨z4, hz4, h⟩ := sx_bd h
  refine sx_callV (o := 0) (As := [.int x3, .int (if (99 : Int32) < x3 + (7 : Int32) then (99 : Int32) else x3 + (7 : Int32))]) (rest := []) KSX (F6_pagesBetween_ck l  x3 (if (99 : Int32) < x3 + (7 : Int32) then (99 : Int32) else x3 + (7 : Int32)) q hz4) mi_X6_pagesBetween gw_599 rfl ⟨gw_601, gw_17⟩ shX_0 rfl rfl ⟨Nat.le_of_ble_eq_true rfl, Nat.le_of_ble_eq_true rfl⟩ (Nat.le_of_ble_eq_true rfl) dX6_term_84 rfl ?_
  obtain rfl := Option.some.inj h
  exact sx_iret dX6_term_87 rfl hk9
def F6_term  (v1 : Int32) (q : SQ) : Option (Int32 × SQ) :=
  (F6_within  v1 (0 : Int32) (2 : Int32) q).bind (fun z1 => (if z1.1 = 0 then some ((-1 : Int32), z1.2) else (F4_copyOf 41 1  z1.2).bind (fun z2 => (if v1 = 0 then (F6_pagesBetween  (gI z2.2 1 8) (gI z2.2 1 9) z2.2).bind (fun z6 => some (z6.1, z6.2)) else (if v1 = (2 : Int32) then (F4_payNothing 41  z2.2).bind (fun z5 => F6_term_57   z5.2) else F6_term_57   z2.2)))))
set_option maxHeartbeats 400000 in
theorem F6_term_ok (l : Launch)  {Q : Option Value → SQ → Prop} (v1 : Int32) (q : SQ) {res : Int32 × SQ} (h : F6_term  v1 q = some res) (hk9 : Q (some (.int res.1)) res.2) : PF6_term l Q 0 [(0, .ref 0), (1, .int v1)] [] q := by
  unfold F6_term at h
  refine sx_iload_n dX6_term_0 rfl rfl ?_
  refine sx_iconst (v := (0 : Int32)) dX6_term_1 (by decide) ?_
  refine sx_iconst (v := (2 : Int32)) dX6_term_2 (by decide) ?_
  obtain ⟨z1, hz1, h⟩ := sx_bd h
  refine sx_callS (As := [.int v1, .int (0 : Int32), .int (2 : Int32)]) (rest := []) KSX (F6_within_ck l  v1 (0 : Int32) (2 : Int32) q hz1) mi_X6_within gw_333 rfl gw_334 ⟨Nat.le_of_ble_eq_true rfl, Nat.le_of_ble_eq_true rfl⟩ (Nat.le_of_ble_eq_true rfl) dX6_term_3 rfl ?_
  refine sx_if_ne (tgt := 11) dX6_term_6 (by decide) (fun c9 => ?_) (fun c9 => ?_)
  · replace h := sx_in h c9
    refine sx_aload_n dX6_term_11 rfl rfl ?_
    refine sx_getR dX6_term_12 (hs := shX_0) (k9 := 8) (hf := rfl) cb_X6 ⟨by decide, rfl, gw_300⟩ ?_
    refine sx_aload_n dX6_term_15 rfl rfl ?_
    refine sx_getR dX6_term_16 (hs := shX_0) (k9 := 0) (hf := rfl) cb_X6 ⟨by decide, rfl, gw_292⟩ ?_
    obtain ⟨z2, hz2, h⟩ := sx_bd h
    refine sx_callV (o := 41) (As := [.ref 1]) (rest := []) KSX (F4_copyOf_ck l 41 iSh_41 1 iSh_1  z1.2 hz2) mi_X4_copyOf gw_479 rfl ⟨gw_480, gw_481⟩ shX_41 rfl rfl ⟨Nat.le_of_ble_eq_true rfl, Nat.le_of_ble_eq_true rfl⟩ (Nat.le_of_ble_eq_true rfl) dX6_term_19 rfl ?_
    refine sx_iload_n dX6_term_22 rfl rfl ?_
    refine sx_if_ne (tgt := 45) dX6_term_23 (by decide) (fun c9 => ?_) (fun c9 => ?_)
    · replace h := sx_in h c9
      refine sx_iload_n dX6_term_45 rfl rfl ?_
      refine sx_iconst (v := (2 : Int32)) dX6_term_46 (by decide) ?_
      refine sx_icmp_ne (tgt := 57) dX6_term_47 (by decide) (fun c9 => ?_) (fun c9 => ?_)
      · replace h := sx_in h c9
        refine sx_locs [0] rfl ?_
        exact F6_term_57_ok l   z2.2 h hk9
      · replace h := sx_ip h c9
        refine sx_aload_n dX6_term_50 rfl rfl ?_
        refine sx_getR dX6_term_51 (hs := shX_0) (k9 := 8) (hf := rfl) cb_X6 ⟨by decide, rfl, gw_300⟩ ?_
        obtain ⟨z5, hz5, h⟩ := sx_bd h
        refine sx_callV (o := 41) (As := []) (rest := []) KSX (F4_payNothing_ck l 41 iSh_41  z2.2 hz5) mi_X4_payNothing gw_603 rfl ⟨gw_285, gw_286⟩ shX_41 rfl rfl ⟨Nat.le_of_ble_eq_true rfl, Nat.le_of_ble_eq_true rfl⟩ (Nat.le_of_ble_eq_true rfl) dX6_term_54 rfl ?_
        refine sx_locs [0] rfl ?_
        exact F6_term_57_ok l   z5.2 h hk9
    · replace h := sx_ip h c9
      refine sx_aload_n dX6_term_26 rfl rfl ?_
      refine sx_aload_n dX6_term_27 rfl rfl ?_
      refine sx_getR dX6_term_28 (hs := shX_0) (k9 := 0) (hf := rfl) cb_X6 ⟨by decide, rfl, gw_292⟩ ?_
      refine sx_getI dX6_term_31 (hs := shX_1) (k9 := 8) (hf := rfl) cb_X4 ⟨by decide, rfl, gw_113⟩ ?_
      refine sx_aload_n dX6_term_34 rfl rfl ?_
      refine sx_getR dX6_term_35 (hs := shX_0) (k9 := 0) (hf := rfl) cb_X6 ⟨by decide, rfl, gw_292⟩ ?_
      refine sx_getI dX6_term_38 (hs := shX_1) (k9 := 9) (hf := rfl) cb_X4 ⟨by decide, rfl, gw_115⟩ ?_
      obtain ⟨z6, hz6, h⟩ := sx_bd h
      refine sx_callV (o := 0) (As := [.int (gI z2.2 1 8), .int (gI z2.2 1 9)]) (rest := []) KSX (F6_pagesBetween_ck l  (gI z2.2 1 8) (gI z2.2 1 9) z2.2 hz6) mi_X6_pagesBetween gw_599 rfl ⟨gw_601, gw_17⟩ shX_0 rfl rfl ⟨Nat.le_of_ble_eq_true rfl, Nat.le_of_ble_eq_true rfl⟩ (Nat.le_of_ble_eq_true rfl) dX6_term_41 rfl ?_
      obtain rfl := Option.some.inj h
      exact sx_iret dX6_term_44 rfl hk9
  · replace h := sx_ip h c9
    refine sx_iconst (v := (-1 : Int32)) dX6_term_9 (by decide) ?_
    obtain rfl := Option.some.inj h
    exact sx_iret dX6_term_10 rfl hk9
theorem F6_term_ck (l : Launch)  (v1 : Int32) (q : SQ) {r : Int32 × SQ} (h : F6_term  v1 q = some r) : CK shX vwCl KX tfX l yX6_term cX6_term 3 ((some .int)) 6 150 [.ref 0, .int v1] q (some (.int r.1)) r.2 :=
  CK.of mi_X6_term (Nat.le_of_ble_eq_true rfl) (F6_term_ok l  v1 q h ⟨rfl, rfl⟩)
theorem mi_X6_likingOn : sx_MI yX6_likingOn cX6_likingOn 3 ((some .int)) 1 := ⟨by decide, ⟨by decide, by decide, by decide +kernel⟩, gw_611, gw_60⟩
abbrev PF6_likingOn (l : Launch) (Q : Option Value → SQ → Prop) : Nat → List (Nat × Value) → List Value → SQ → Prop := XX shX vwCl KX tfX l RX6 cX6_likingOn 3 ((some .int)) { frames := 5, cells := 0, slots := 0, locals := 125 } Q
def F6_likingOn_14b  (v1 : Int32) (v2 : Int32) (q : SQ) : Option ((Int32 × SQ) ⊕ (Int32 × SQ)) :=
  (if v1 ≤ v2 then (F0_sumOf 49 (gI q 41 0) q).bind (fun z2 => some (.inr (z2.1, z2.2))) else (F0_pass 48 41  q).bind (fun z3 => sx_let (v2 + (1 : Int32)) (fun x4 => some (.inl (x4, z3.2)))))
set_option maxHeartbeats 400000 in
theorem F6_likingOn_14b_ok (l : Launch)  {Q : Option Value → SQ → Prop} (v1 : Int32) (v2 : Int32) (q : SQ) {res : (Int32 × SQ) ⊕ (Int32 × SQ)} (h : F6_likingOn_14b  v1 v2 q = some res) (hk9 : (∀ a5, res = .inl a5 → PF6_likingOn l Q 14 [(0, .ref 0), (1, .int v1), (2, .int a5.1)] [] a5.2) ∧ (∀ b6, res = .inr b6 → Q (some (.int b6.1)) b6.2)) : PF6_likingOn l Q 14 [(0, .ref 0), (1, .int v1), (2, .int v2)] [] q := by
  unfold F6_likingOn_14b at h
  refine sx_iload_n dX6_likingOn_14 rfl rfl ?_
  refine sx_iload_n dX6_likingOn_15 rfl rfl ?_
  refine sx_icmp_ge (tgt := 41) dX6_likingOn_16 (by decide) (fun c9 => ?_) (fun c9 => ?_)
  · replace h := sx_ip h c9
    refine sx_aload_n dX6_likingOn_41 rfl rfl ?_
    refine sx_getR dX6_likingOn_42 (hs := shX_0) (k9 := 9) (hf := rfl) cb_X6 ⟨by decide, rfl, gw_301⟩ ?_
    refine sx_getR dX6_likingOn_45 (hs := shX_48) (k9 := 2) (hf := rfl) cb_X0 ⟨by decide, rfl, gw_190⟩ ?_
    refine sx_aload_n dX6_likingOn_48 rfl rfl ?_
    refine sx_getR dX6_likingOn_49 (hs := shX_0) (k9 := 8) (hf := rfl) cb_X6 ⟨by decide, rfl, gw_300⟩ ?_
    refine sx_getI dX6_likingOn_52 (hs := shX_41) (k9 := 0) (hf := rfl) cb_X4 ⟨by decide, rfl, gw_90⟩ ?_
    obtain ⟨z2, hz2, h⟩ := sx_bd h
    refine sx_callS (As := [.ref 49, .int (gI q 41 0)]) (rest := []) KSX (F0_sumOf_ck l 49 shX_49 (gI q 41 0) q hz2) mi_X0_sumOf gw_588 rfl gw_589 ⟨Nat.le_of_ble_eq_true rfl, Nat.le_of_ble_eq_true rfl⟩ (Nat.le_of_ble_eq_true rfl) dX6_likingOn_55 rfl ?_
    have hk9 := hk9.2 _ (Option.some.inj h).symm
    exact sx_iret dX6_likingOn_58 rfl hk9
  · replace h := sx_in h c9
    refine sx_aload_n dX6_likingOn_19 rfl rfl ?_
    refine sx_getR dX6_likingOn_20 (hs := shX_0) (k9 := 9) (hf := rfl) cb_X6 ⟨by decide, rfl, gw_301⟩ ?_
    refine sx_aload_n dX6_likingOn_23 rfl rfl ?_
    refine sx_getR dX6_likingOn_24 (hs := shX_0) (k9 := 8) (hf := rfl) cb_X6 ⟨by decide, rfl, gw_300⟩ ?_
    refine sx_aload_n dX6_likingOn_27 rfl rfl ?_
    refine sx_getR dX6_likingOn_28 (hs := shX_0) (k9 := 3) (hf := rfl) cb_X6 ⟨by decide, rfl, gw_295⟩ ?_
    obtain ⟨z3, hz3, h⟩ := sx_bd h
    refine sx_callV (o := 48) (As := [.ref 41, .ref 23]) (rest := []) KSX (F0_pass_ck l 48 iCo_48 41 iSh_41  q hz3) mi_X0_pass gw_562 rfl ⟨gw_563, gw_564⟩ shX_48 rfl rfl ⟨Nat.le_of_ble_eq_true rfl, Nat.le_of_ble_eq_true rfl⟩ (Nat.le_of_ble_eq_true rfl) dX6_likingOn_31 rfl ?_
    refine sx_pop dX6_likingOn_34 rfl ?_
    obtain ⟨x4, ex4, h⟩ := sx_lt h
    refine sx_iinc (k9 := 2) (v := x4) (ls2 := [(2, .int x4), (0, .ref 0), (1, .int v1)]) dX6_likingOn_35 rfl (by rw [ex4, sx_ofI1]) (by decide) rfl ?_
    refine sx_goto (tgt := 14) dX6_likingOn_38 (by decide) ?_
    refine sx_locs [1, 2, 0] rfl ?_
    exact hk9.1 (x4, z3.2) (Option.some.inj h).symm
def F6_likingOn_14  (v1 : Int32) (v2 : Int32) (q : SQ) : Option (Int32 × SQ) := sx_loop (fun s7 => F6_likingOn_14b  v1 s7.1 s7.2) FU (v2, q)
set_option maxHeartbeats 400000 in
theorem F6_likingOn_14_ok (l : Launch)  {Q : Option Value → SQ → Prop} (v1 : Int32) (v2 : Int32) (q : SQ) {t : Int32 × SQ} (h : F6_likingOn_14  v1 v2 q = some t) (hk9 : Q (some (.int t.1)) t.2) : PF6_likingOn l Q 14 [(0, .ref 0), (1, .int v1), (2, .int v2)] [] q := by
  unfold F6_likingOn_14 at h
  have st : ∀ (s : Int32 × SQ) (res : (Int32 × SQ) ⊕ (Int32 × SQ)), F6_likingOn_14b  v1 s.1 s.2 = some res → (∀ s2, res = .inl s2 → PF6_likingOn l Q 14 [(0, .ref 0), (1, .int v1), (2, .int s2.1)] [] s2.2) → (∀ t2, res = .inr t2 → Q (some (.int t2.1)) t2.2) → PF6_likingOn l Q 14 [(0, .ref 0), (1, .int v1), (2, .int s.1)] [] s.2 :=
    fun s res hb hi ho => F6_likingOn_14b_ok l  v1 s.1 s.2 hb ⟨hi, ho⟩
  have h9 : PF6_likingOn l Q 14 [(0, .ref 0), (1, .int v1), (2, .int v2)] [] q := sx_lp (body := fun s => F6_likingOn_14b  v1 s.1 s.2) (P := fun s => PF6_likingOn l Q 14 [(0, .ref 0), (1, .int v1), (2, .int s.1)] [] s.2) (T := fun t => Q (some (.int t.1)) t.2) st FU (v2, q) t h hk9
  exact h9
def F6_likingOn  (v1 : Int32) (q : SQ) : Option (Int32 × SQ) :=
  (F0_begin 48 41 (0 : Int32) q).bind (fun z1 => F6_likingOn_14  v1 (0 : Int32) z1.2)
set_option maxHeartbeats 400000 in
theorem F6_likingOn_ok (l : Launch)  {Q : Option Value → SQ → Prop} (v1 : Int32) (q : SQ) {res : Int32 × SQ} (h : F6_likingOn  v1 q = some res) (hk9 : Q (some (.int res.1)) res.2) : PF6_likingOn l Q 0 [(0, .ref 0), (1, .int v1)] [] q := by
  unfold F6_likingOn at h
  refine sx_aload_n dX6_likingOn_0 rfl rfl ?_
  refine sx_getR dX6_likingOn_1 (hs := shX_0) (k9 := 9) (hf := rfl) cb_X6 ⟨by decide, rfl, gw_301⟩ ?_
  refine sx_aload_n dX6_likingOn_4 rfl rfl ?_
  refine sx_getR dX6_likingOn_5 (hs := shX_0) (k9 := 8) (hf := rfl) cb_X6 ⟨by decide, rfl, gw_300⟩ ?_
  refine sx_iconst (v := (0 : Int32)) dX6_likingOn_8 (by decide) ?_
  obtain ⟨z1, hz1, h⟩ := sx_bd h
  refine sx_callV (o := 48) (As := [.ref 41, .int (0 : Int32)]) (rest := []) KSX (F0_begin_ck l 48 iCo_48 41 iSh_41 (0 : Int32) q hz1) mi_X0_begin gw_288 rfl ⟨gw_289, gw_290⟩ shX_48 rfl rfl ⟨Nat.le_of_ble_eq_true rfl, Nat.le_of_ble_eq_true rfl⟩ (Nat.le_of_ble_eq_true rfl) dX6_likingOn_9 rfl ?_
  refine sx_iconst (v := (0 : Int32)) dX6_likingOn_12 (by decide) ?_
  refine sx_istore_n (ls2 := [(2, .int (0 : Int32)), (0, .ref 0), (1, .int v1)]) dX6_likingOn_13 rfl (by decide) rfl ?_
  refine sx_locs [1, 2, 0] rfl ?_
  exact F6_likingOn_14_ok l  v1 (0 : Int32) z1.2 h hk9
theorem F6_likingOn_ck (l : Launch)  (v1 : Int32) (q : SQ) {r : Int32 × SQ} (h : F6_likingOn  v1 q = some r) : CK shX vwCl KX tfX l yX6_likingOn cX6_likingOn 3 ((some .int)) 5 125 [.ref 0, .int v1] q (some (.int r.1)) r.2 :=
  CK.of mi_X6_likingOn (Nat.le_of_ble_eq_true rfl) (F6_likingOn_ok l  v1 q h ⟨rfl, rfl⟩)
theorem mi_X6_end : sx_MI yX6_end cX6_end 2 ((some .int)) 1 := ⟨by decide, ⟨by decide, by decide, by decide +kernel⟩, gw_607, gw_60⟩
abbrev PF6_end (l : Launch) (Q : Option Value → SQ → Prop) : Nat → List (Nat × Value) → List Value → SQ → Prop := XX shX vwCl KX tfX l RX6 cX6_end 2 ((some .int)) { frames := 6, cells := 0, slots := 0, locals := 147 } Q
def F6_end  (v1 : Int32) (q : SQ) : Option (Int32 × SQ) :=
  (F6_isDay  v1 q).bind (fun z1 => (if z1.1 = 0 then some ((-1 : Int32), z1.2) else (F4_copyOf 41 1  z1.2).bind (fun z2 => (F6_likingOn  v1 z2.2).bind (fun z3 => some (z3.1, z3.2)))))
set_option maxHeartbeats 400000 in
theorem F6_end_ok (l : Launch)  {Q : Option Value → SQ → Prop} (v1 : Int32) (q : SQ) {res : Int32 × SQ} (h : F6_end  v1 q = some res) (hk9 : Q (some (.int res.1)) res.2) : PF6_end l Q 0 [(0, .ref 0), (1, .int v1)] [] q := by
  unfold F6_end at h
  refine sx_iload_n dX6_end_0 rfl rfl ?_
  obtain ⟨z1, hz1, h⟩ := sx_bd h
  refine sx_callS (As := [.int v1]) (rest := []) KSX (F6_isDay_ck l  v1 q hz1) mi_X6_isDay gw_515 rfl gw_516 ⟨Nat.le_of_ble_eq_true rfl, Nat.le_of_ble_eq_true rfl⟩ (Nat.le_of_ble_eq_true rfl) dX6_end_1 rfl ?_
  refine sx_if_ne (tgt := 9) dX6_end_4 (by decide) (fun c9 => ?_) (fun c9 => ?_)
  · replace h := sx_in h c9
    refine sx_aload_n dX6_end_9 rfl rfl ?_
    refine sx_getR dX6_end_10 (hs := shX_0) (k9 := 8) (hf := rfl) cb_X6 ⟨by decide, rfl, gw_300⟩ ?_
    refine sx_aload_n dX6_end_13 rfl rfl ?_
    refine sx_getR dX6_end_14 (hs := shX_0) (k9 := 0) (hf := rfl) cb_X6 ⟨by decide, rfl, gw_292⟩ ?_
    obtain ⟨z2, hz2, h⟩ := sx_bd h
    refine sx_callV (o := 41) (As := [.ref 1]) (rest := []) KSX (F4_copyOf_ck l 41 iSh_41 1 iSh_1  z1.2 hz2) mi_X4_copyOf gw_479 rfl ⟨gw_480, gw_481⟩ shX_41 rfl rfl ⟨Nat.le_of_ble_eq_true rfl, Nat.le_of_ble_eq_true rfl⟩ (Nat.le_of_ble_eq_true rfl) dX6_end_17 rfl ?_
    refine sx_aload_n dX6_end_20 rfl rfl ?_
    refine sx_iload_n dX6_end_21 rfl rfl ?_
    obtain ⟨z3, hz3, h⟩ := sx_bd h
    refine sx_callV (o := 0) (As := [.int v1]) (rest := []) KSX (F6_likingOn_ck l  v1 z2.2 hz3) mi_X6_likingOn gw_608 rfl ⟨gw_610, gw_18⟩ shX_0 rfl rfl ⟨Nat.le_of_ble_eq_true rfl, Nat.le_of_ble_eq_true rfl⟩ (Nat.le_of_ble_eq_true rfl) dX6_end_22 rfl ?_
    obtain rfl := Option.some.inj h
    exact sx_iret dX6_end_25 rfl hk9
  · replace h := sx_ip h c9
    refine sx_iconst (v := (-1 : Int32)) dX6_end_7 (by decide) ?_
    obtain rfl := Option.some.inj h
    exact sx_iret dX6_end_8 rfl hk9
theorem F6_end_ck (l : Launch)  (v1 : Int32) (q : SQ) {r : Int32 × SQ} (h : F6_end  v1 q = some r) : CK shX vwCl KX tfX l yX6_end cX6_end 2 ((some .int)) 6 147 [.ref 0, .int v1] q (some (.int r.1)) r.2 :=
  CK.of mi_X6_end (Nat.le_of_ble_eq_true rfl) (F6_end_ok l  v1 q h ⟨rfl, rfl⟩)
theorem mi_X6_best : sx_MI yX6_best cX6_best 11 ((some .int)) 3 := ⟨by decide, ⟨by decide, by decide, by decide +kernel⟩, gw_615, gw_60⟩
abbrev PF6_best (l : Launch) (Q : Option Value → SQ → Prop) : Nat → List (Nat × Value) → List Value → SQ → Prop := XX shX vwCl KX tfX l RX6 cX6_best 11 ((some .int)) { frames := 6, cells := 0, slots := 0, locals := 147 } Q
def F6_best_33   (q : SQ) : Option (Int32 × SQ) :=
  some ((-1 : Int32), q)
set_option maxHeartbeats 400000 in
theorem F6_best_33_ok (l : Launch)  {Q : Option Value → SQ → Prop}  (q : SQ) {res : Int32 × SQ} (h : F6_best_33   q = some res) (hk9 : Q (some (.int res.1)) res.2) : PF6_best l Q 33 [] [] q := by
  unfold F6_best_33 at h
  refine sx_iconst (v := (-1 : Int32)) dX6_best_33 (by decide) ?_
  obtain rfl := Option.some.inj h
  exact sx_iret dX6_best_34 rfl hk9
def F6_best_158  (v1 : Int32) (v2 : Int32) (v3 : Int32) (v4 : Int32) (v5 : Int32) (v6 : Int32) (v7 : Int32) (v8 : Int32) (v9 : Int32) (q : SQ) : Option ((Int32 × Int32 × Int32 × Int32 × SQ) ⊕ ((Int32 × Int32 × Int32 × Int32 × SQ) ⊕ (Int32 × SQ))) :=
  sx_let (v9 + (1 : Int32)) (fun x13 => some (.inl (v4, v5, v6, x13, q)))
set_option maxHeartbeats 400000 in
theorem F6_best_158_ok (l : Launch)  {Q : Option Value → SQ → Prop} (v1 : Int32) (v2 : Int32) (v3 : Int32) (v4 : Int32) (v5 : Int32) (v6 : Int32) (v7 : Int32) (v8 : Int32) (v9 : Int32) (q : SQ) {res : (Int32 × Int32 × Int32 × Int32 × SQ) ⊕ ((Int32 × Int32 × Int32 × Int32 × SQ) ⊕ (Int32 × SQ))} (h : F6_best_158  v1 v2 v3 v4 v5 v6 v7 v8 v9 q = some res) (hk9 : (∀ a14, res = .inl a14 → PF6_best l Q 116 [(0, .ref 0), (1, .int v1), (2, .int v2), (3, .int v3), (4, .int a14.1), (5, .int a14.2.1), (6, .int a14.2.2.1), (7, .int v7), (8, .int v8), (9, .int a14.2.2.2.1)] [] a14.2.2.2.2) ∧ (∀ b15, res = .inr b15 → (∀ a16, b15 = .inl a16 → PF6_best l Q 71 [(0, .ref 0), (1, .int v1), (2, .int v2), (3, .int v3), (4, .int a16.1), (5, .int a16.2.1), (6, .int a16.2.2.1), (7, .int a16.2.2.2.1)] [] a16.2.2.2.2) ∧ (∀ b17, b15 = .inr b17 → Q (some (.int b17.1)) b17.2))) : PF6_best l Q 158 [(0, .ref 0), (1, .int v1), (2, .int v2), (3, .int v3), (4, .int v4), (5, .int v5), (6, .int v6), (7, .int v7), (8, .int v8), (9, .int v9)] [] q := by
  unfold F6_best_158 at h
  obtain ⟨x13, ex13, h⟩ := sx_lt h
  refine sx_iinc (k9 := 9) (v := x13) (ls2 := [(9, .int x13), (0, .ref 0), (1, .int v1), (2, .int v2), (3, .int v3), (4, .int v4), (5, .int v5), (6, .int v6), (7, .int v7), (8, .int v8)]) dX6_best_158 rfl (by rw [ex13, sx_ofI1]) (by decide) rfl ?_
  refine sx_goto (tgt := 116) dX6_best_161 (by decide) ?_
  refine sx_locs [1, 2, 3, 4, 5, 6, 7, 8, 9, 0] rfl ?_
  exact hk9.1 (v4, v5, v6, x13, q) (Option.some.inj h).symm
def F6_best_116b  (v1 : Int32) (v2 : Int32) (v3 : Int32) (v4 : Int32) (v5 : Int32) (v6 : Int32) (v7 : Int32) (v8 : Int32) (v9 : Int32) (q : SQ) : Option ((Int32 × Int32 × Int32 × Int32 × SQ) ⊕ ((Int32 × Int32 × Int32 × Int32 × SQ) ⊕ (Int32 × SQ))) :=
  (if v8 < v9 then sx_let (v7 + (1 : Int32)) (fun x9 => some (.inr (.inl (v4, v5, v6, x9, q)))) else sx_let (sI q 41 9 v9) (fun q10 => (F6_likingOn  v2 q10).bind (fun z11 => sx_let z11.1 (fun x12 => (if x12 ≤ v6 then F6_best_158  v1 v2 v3 v4 v5 v6 v7 v8 v9 z11.2 else F6_best_158  v1 v2 v3 v7 v9 x12 v7 v8 v9 z11.2)))))
set_option maxHeartbeats 400000 in
theorem F6_best_116b_ok (l : Launch)  {Q : Option Value → SQ → Prop} (v1 : Int32) (v2 : Int32) (v3 : Int32) (v4 : Int32) (v5 : Int32) (v6 : Int32) (v7 : Int32) (v8 : Int32) (v9 : Int32) (q : SQ) {res : (Int32 × Int32 × Int32 × Int32 × SQ) ⊕ ((Int32 × Int32 × Int32 × Int32 × SQ) ⊕ (Int32 × SQ))} (h : F6_best_116b  v1 v2 v3 v4 v5 v6 v7 v8 v9 q = some res) (hk9 : (∀ a18, res = .inl a18 → PF6_best l Q 116 [(0, .ref 0), (1, .int v1), (2, .int v2), (3, .int v3), (4, .int a18.1), (5, .int a18.2.1), (6, .int a18.2.2.1), (7, .int v7), (8, .int v8), (9, .int a18.2.2.2.1)] [] a18.2.2.2.2) ∧ (∀ b19, res = .inr b19 → (∀ a20, b19 = .inl a20 → PF6_best l Q 71 [(0, .ref 0), (1, .int v1), (2, .int v2), (3, .int v3), (4, .int a20.1), (5, .int a20.2.1), (6, .int a20.2.2.1), (7, .int a20.2.2.2.1)] [] a20.2.2.2.2) ∧ (∀ b21, b19 = .inr b21 → Q (some (.int b21.1)) b21.2))) : PF6_best l Q 116 [(0, .ref 0), (1, .int v1), (2, .int v2), (3, .int v3), (4, .int v4), (5, .int v5), (6, .int v6), (7, .int v7), (8, .int v8), (9, .int v9)] [] q := by
  unfold F6_best_116b at h
  refine sx_iload dX6_best_116 rfl ?_
  refine sx_iload dX6_best_118 rfl ?_
  refine sx_icmp_gt (tgt := 164) dX6_best_120 (by decide) (fun c9 => ?_) (fun c9 => ?_)
  · replace h := sx_ip h c9
    obtain ⟨x9, ex9, h⟩ := sx_lt h
    refine sx_iinc (k9 := 7) (v := x9) (ls2 := [(7, .int x9), (0, .ref 0), (1, .int v1), (2, .int v2), (3, .int v3), (4, .int v4), (5, .int v5), (6, .int v6), (8, .int v8), (9, .int v9)]) dX6_best_164 rfl (by rw [ex9, sx_ofI1]) (by decide) rfl ?_
    refine sx_goto (tgt := 71) dX6_best_167 (by decide) ?_
    have hk9 := hk9.2 _ (Option.some.inj h).symm
    have h : (some (.inl (v4, v5, v6, x9, q)) : Option ((Int32 × Int32 × Int32 × Int32 × SQ) ⊕ (Int32 × SQ))) = some (.inl (v4, v5, v6, x9, q)) := rfl
    refine sx_locs [1, 2, 3, 4, 5, 6, 7, 0] rfl ?_
    exact hk9.1 (v4, v5, v6, x9, q) (Option.some.inj h).symm
  · replace h := sx_in h c9
    refine sx_aload_n dX6_best_123 rfl rfl ?_
    refine sx_getR dX6_best_124 (hs := shX_0) (k9 := 8) (hf := rfl) cb_X6 ⟨by decide, rfl, gw_300⟩ ?_
    refine sx_iload dX6_best_127 rfl ?_
    obtain ⟨q10, eq10, h⟩ := sx_lt h
    refine sx_putI dX6_best_129 (hs := shX_41) (k9 := 9) (hf := rfl) cb_X4 ⟨by decide, rfl, gw_115⟩ rfl (by decide) ?_
    refine sx_nmQ eq10 ?_
    refine sx_aload_n dX6_best_132 rfl rfl ?_
    refine sx_iload_n dX6_best_133 rfl rfl ?_
    obtain ⟨z11, hz11, h⟩ := sx_bd h
    refine sx_callV (o := 0) (As := [.int v2]) (rest := []) KSX (F6_likingOn_ck l  v2 q10 hz11) mi_X6_likingOn gw_608 rfl ⟨gw_610, gw_18⟩ shX_0 rfl rfl ⟨Nat.le_of_ble_eq_true rfl, Nat.le_of_ble_eq_true rfl⟩ (Nat.le_of_ble_eq_true rfl) dX6_best_134 rfl ?_
    obtain ⟨x12, ex12, h⟩ := sx_lt h
    refine sx_nmI ex12 ?_
    refine sx_istore (ls2 := [(10, .int x12), (0, .ref 0), (1, .int v1), (2, .int v2), (3, .int v3), (4, .int v4), (5, .int v5), (6, .int v6), (7, .int v7), (8, .int v8), (9, .int v9)]) dX6_best_137 (by decide) rfl ?_
    refine sx_iload dX6_best_139 rfl ?_
    refine sx_iload dX6_best_141 rfl ?_
    refine sx_icmp_le (tgt := 158) dX6_best_143 (by decide) (fun c9 => ?_) (fun c9 => ?_)
    · replace h := sx_ip h c9
      refine sx_locs [1, 2, 3, 4, 5, 6, 7, 8, 9, 10] rfl ?_
      exact F6_best_158_ok l  v1 v2 v3 v4 v5 v6 v7 v8 v9 z11.2 h hk9
    · replace h := sx_in h c9
      refine sx_iload dX6_best_146 rfl ?_
      refine sx_istore (ls2 := [(4, .int v7), (10, .int x12), (0, .ref 0), (1, .int v1), (2, .int v2), (3, .int v3), (5, .int v5), (6, .int v6), (7, .int v7), (8, .int v8), (9, .int v9)]) dX6_best_148 (by decide) rfl ?_
      refine sx_iload dX6_best_150 rfl ?_
      refine sx_istore (ls2 := [(5, .int v9), (4, .int v7), (10, .int x12), (0, .ref 0), (1, .int v1), (2, .int v2), (3, .int v3), (6, .int v6), (7, .int v7), (8, .int v8), (9, .int v9)]) dX6_best_152 (by decide) rfl ?_
      refine sx_iload dX6_best_154 rfl ?_
      refine sx_istore (ls2 := [(6, .int x12), (5, .int v9), (4, .int v7), (10, .int x12), (0, .ref 0), (1, .int v1), (2, .int v2), (3, .int v3), (7, .int v7), (8, .int v8), (9, .int v9)]) dX6_best_156 (by decide) rfl ?_
      refine sx_locs [4, 5, 6, 7, 2, 1, 0, 8, 9, 10] rfl ?_
      exact F6_best_158_ok l  v1 v2 v3 v7 v9 x12 v7 v8 v9 z11.2 h hk9
def F6_best_116  (v1 : Int32) (v2 : Int32) (v3 : Int32) (v4 : Int32) (v5 : Int32) (v6 : Int32) (v7 : Int32) (v8 : Int32) (v9 : Int32) (q : SQ) : Option ((Int32 × Int32 × Int32 × Int32 × SQ) ⊕ (Int32 × SQ)) := sx_loop (fun s22 => F6_best_116b  v1 v2 v3 s22.1 s22.2.1 s22.2.2.1 v7 v8 s22.2.2.2.1 s22.2.2.2.2) FU (v4, v5, v6, v9, q)
set_option maxHeartbeats 400000 in
theorem F6_best_116_ok (l : Launch)  {Q : Option Value → SQ → Prop} (v1 : Int32) (v2 : Int32) (v3 : Int32) (v4 : Int32) (v5 : Int32) (v6 : Int32) (v7 : Int32) (v8 : Int32) (v9 : Int32) (q : SQ) {t : (Int32 × Int32 × Int32 × Int32 × SQ) ⊕ (Int32 × SQ)} (h : F6_best_116  v1 v2 v3 v4 v5 v6 v7 v8 v9 q = some t) (hk9 : (∀ a23, t = .inl a23 → PF6_best l Q 71 [(0, .ref 0), (1, .int v1), (2, .int v2), (3, .int v3), (4, .int a23.1), (5, .int a23.2.1), (6, .int a23.2.2.1), (7, .int a23.2.2.2.1)] [] a23.2.2.2.2) ∧ (∀ b24, t = .inr b24 → Q (some (.int b24.1)) b24.2)) : PF6_best l Q 116 [(0, .ref 0), (1, .int v1), (2, .int v2), (3, .int v3), (4, .int v4), (5, .int v5), (6, .int v6), (7, .int v7), (8, .int v8), (9, .int v9)] [] q := by
  unfold F6_best_116 at h
  have st : ∀ (s : Int32 × Int32 × Int32 × Int32 × SQ) (res : (Int32 × Int32 × Int32 × Int32 × SQ) ⊕ ((Int32 × Int32 × Int32 × Int32 × SQ) ⊕ (Int32 × SQ))), F6_best_116b  v1 v2 v3 s.1 s.2.1 s.2.2.1 v7 v8 s.2.2.2.1 s.2.2.2.2 = some res → (∀ s2, res = .inl s2 → PF6_best l Q 116 [(0, .ref 0), (1, .int v1), (2, .int v2), (3, .int v3), (4, .int s2.1), (5, .int s2.2.1), (6, .int s2.2.2.1), (7, .int v7), (8, .int v8), (9, .int s2.2.2.2.1)] [] s2.2.2.2.2) → (∀ t2, res = .inr t2 → (∀ a25, t2 = .inl a25 → PF6_best l Q 71 [(0, .ref 0), (1, .int v1), (2, .int v2), (3, .int v3), (4, .int a25.1), (5, .int a25.2.1), (6, .int a25.2.2.1), (7, .int a25.2.2.2.1)] [] a25.2.2.2.2) ∧ (∀ b26, t2 = .inr b26 → Q (some (.int b26.1)) b26.2)) → PF6_best l Q 116 [(0, .ref 0), (1, .int v1), (2, .int v2), (3, .int v3), (4, .int s.1), (5, .int s.2.1), (6, .int s.2.2.1), (7, .int v7), (8, .int v8), (9, .int s.2.2.2.1)] [] s.2.2.2.2 :=
    fun s res hb hi ho => F6_best_116b_ok l  v1 v2 v3 s.1 s.2.1 s.2.2.1 v7 v8 s.2.2.2.1 s.2.2.2.2 hb ⟨hi, ho⟩
  have h9 : PF6_best l Q 116 [(0, .ref 0), (1, .int v1), (2, .int v2), (3, .int v3), (4, .int v4), (5, .int v5), (6, .int v6), (7, .int v7), (8, .int v8), (9, .int v9)] [] q := sx_lp (body := fun s => F6_best_116b  v1 v2 v3 s.1 s.2.1 s.2.2.1 v7 v8 s.2.2.2.1 s.2.2.2.2) (P := fun s => PF6_best l Q 116 [(0, .ref 0), (1, .int v1), (2, .int v2), (3, .int v3), (4, .int s.1), (5, .int s.2.1), (6, .int s.2.2.1), (7, .int v7), (8, .int v8), (9, .int s.2.2.2.1)] [] s.2.2.2.2) (T := fun t => (∀ a27, t = .inl a27 → PF6_best l Q 71 [(0, .ref 0), (1, .int v1), (2, .int v2), (3, .int v3), (4, .int a27.1), (5, .int a27.2.1), (6, .int a27.2.2.1), (7, .int a27.2.2.2.1)] [] a27.2.2.2.2) ∧ (∀ b28, t = .inr b28 → Q (some (.int b28.1)) b28.2)) st FU (v4, v5, v6, v9, q) t h hk9
  exact h9
def F6_best_105  (v1 : Int32) (v2 : Int32) (v3 : Int32) (v4 : Int32) (v5 : Int32) (v6 : Int32) (v7 : Int32) (s0 : Int32) (q : SQ) : Option ((Int32 × Int32 × Int32 × Int32 × SQ) ⊕ (Int32 × SQ)) :=
  sx_let (gI q 1 8) (fun x8 => F6_best_116  v1 v2 v3 v4 v5 v6 v7 s0 x8 q)
set_option maxHeartbeats 400000 in
theorem F6_best_105_ok (l : Launch)  {Q : Option Value → SQ → Prop} (v1 : Int32) (v2 : Int32) (v3 : Int32) (v4 : Int32) (v5 : Int32) (v6 : Int32) (v7 : Int32) (s0 : Int32) (q : SQ) {res : (Int32 × Int32 × Int32 × Int32 × SQ) ⊕ (Int32 × SQ)} (h : F6_best_105  v1 v2 v3 v4 v5 v6 v7 s0 q = some res) (hk9 : (∀ a29, res = .inl a29 → PF6_best l Q 71 [(0, .ref 0), (1, .int v1), (2, .int v2), (3, .int v3), (4, .int a29.1), (5, .int a29.2.1), (6, .int a29.2.2.1), (7, .int a29.2.2.2.1)] [] a29.2.2.2.2) ∧ (∀ b30, res = .inr b30 → Q (some (.int b30.1)) b30.2)) : PF6_best l Q 105 [(0, .ref 0), (1, .int v1), (2, .int v2), (3, .int v3), (4, .int v4), (5, .int v5), (6, .int v6), (7, .int v7)] [.int s0] q := by
  unfold F6_best_105 at h
  refine sx_istore (ls2 := [(8, .int s0), (0, .ref 0), (1, .int v1), (2, .int v2), (3, .int v3), (4, .int v4), (5, .int v5), (6, .int v6), (7, .int v7)]) dX6_best_105 (by decide) rfl ?_
  refine sx_aload_n dX6_best_107 rfl rfl ?_
  refine sx_getR dX6_best_108 (hs := shX_0) (k9 := 0) (hf := rfl) cb_X6 ⟨by decide, rfl, gw_292⟩ ?_
  refine sx_getI dX6_best_111 (hs := shX_1) (k9 := 8) (hf := rfl) cb_X4 ⟨by decide, rfl, gw_113⟩ ?_
  obtain ⟨x8, ex8, h⟩ := sx_lt h
  refine sx_nmI ex8 ?_
  refine sx_istore (ls2 := [(9, .int x8), (8, .int s0), (0, .ref 0), (1, .int v1), (2, .int v2), (3, .int v3), (4, .int v4), (5, .int v5), (6, .int v6), (7, .int v7)]) dX6_best_114 (by decide) rfl ?_
  refine sx_locs [2, 3, 4, 5, 6, 7, 8, 9, 1, 0] rfl ?_
  exact F6_best_116_ok l  v1 v2 v3 v4 v5 v6 v7 s0 x8 q h hk9
def F6_best_71b  (v1 : Int32) (v2 : Int32) (v3 : Int32) (v4 : Int32) (v5 : Int32) (v6 : Int32) (v7 : Int32) (q : SQ) : Option ((Int32 × Int32 × Int32 × Int32 × SQ) ⊕ (Int32 × SQ)) :=
  (if (9 : Int32) < v7 then (if v3 = 0 then some (.inr (v4, q)) else (if v3 = (1 : Int32) then some (.inr (v5, q)) else some (.inr (v6, q)))) else (if sx_ix v1 4 = true then sx_let (sI q 47 v1.toNatClampNeg v7) (fun q7 => (if v7 = 0 then F6_best_105  v1 v2 v3 v4 v5 v6 v7 (gI q7 1 8) q7 else F6_best_105  v1 v2 v3 v4 v5 v6 v7 v2 q7)) else none))
set_option maxHeartbeats 400000 in
theorem F6_best_71b_ok (l : Launch)  {Q : Option Value → SQ → Prop} (v1 : Int32) (v2 : Int32) (v3 : Int32) (v4 : Int32) (v5 : Int32) (v6 : Int32) (v7 : Int32) (q : SQ) {res : (Int32 × Int32 × Int32 × Int32 × SQ) ⊕ (Int32 × SQ)} (h : F6_best_71b  v1 v2 v3 v4 v5 v6 v7 q = some res) (hk9 : (∀ a31, res = .inl a31 → PF6_best l Q 71 [(0, .ref 0), (1, .int v1), (2, .int v2), (3, .int v3), (4, .int a31.1), (5, .int a31.2.1), (6, .int a31.2.2.1), (7, .int a31.2.2.2.1)] [] a31.2.2.2.2) ∧ (∀ b32, res = .inr b32 → Q (some (.int b32.1)) b32.2)) : PF6_best l Q 71 [(0, .ref 0), (1, .int v1), (2, .int v2), (3, .int v3), (4, .int v4), (5, .int v5), (6, .int v6), (7, .int v7)] [] q := by
  unfold F6_best_71b at h
  refine sx_iload dX6_best_71 rfl ?_
  refine sx_bipush (v := (9 : Int32)) dX6_best_73 (by decide) ?_
  refine sx_icmp_gt (tgt := 170) dX6_best_75 (by decide) (fun c9 => ?_) (fun c9 => ?_)
  · replace h := sx_ip h c9
    refine sx_iload_n dX6_best_170 rfl rfl ?_
    refine sx_if_ne (tgt := 179) dX6_best_171 (by decide) (fun c9 => ?_) (fun c9 => ?_)
    · replace h := sx_in h c9
      refine sx_iload_n dX6_best_179 rfl rfl ?_
      refine sx_iconst (v := (1 : Int32)) dX6_best_180 (by decide) ?_
      refine sx_icmp_ne (tgt := 189) dX6_best_181 (by decide) (fun c9 => ?_) (fun c9 => ?_)
      · replace h := sx_in h c9
        refine sx_iload dX6_best_189 rfl ?_
        have hk9 := hk9.2 _ (Option.some.inj h).symm
        exact sx_iret dX6_best_191 rfl hk9
      · replace h := sx_ip h c9
        refine sx_iload dX6_best_184 rfl ?_
        refine sx_goto (tgt := 191) dX6_best_186 (by decide) ?_
        have hk9 := hk9.2 _ (Option.some.inj h).symm
        exact sx_iret dX6_best_191 rfl hk9
    · replace h := sx_ip h c9
      refine sx_iload dX6_best_174 rfl ?_
      refine sx_goto (tgt := 191) dX6_best_176 (by decide) ?_
      have hk9 := hk9.2 _ (Option.some.inj h).symm
      exact sx_iret dX6_best_191 rfl hk9
  · replace h := sx_in h c9
    refine sx_aload_n dX6_best_78 rfl rfl ?_
    refine sx_getR dX6_best_79 (hs := shX_0) (k9 := 8) (hf := rfl) cb_X6 ⟨by decide, rfl, gw_300⟩ ?_
    refine sx_getR dX6_best_82 (hs := shX_41) (k9 := 7) (hf := rfl) cb_X4 ⟨by decide, rfl, gw_110⟩ ?_
    refine sx_iload_n dX6_best_85 rfl rfl ?_
    refine sx_iload dX6_best_86 rfl ?_
    obtain ⟨g9, h⟩ := sx_gd h
    obtain ⟨q7, eq7, h⟩ := sx_lt h
    refine sx_iast dX6_best_88 shX_47 (fun _ _ => rfl) (sx_ix_in g9) ?_
    refine sx_nmQ eq7 ?_
    refine sx_iload dX6_best_89 rfl ?_
    refine sx_if_ne (tgt := 104) dX6_best_91 (by decide) (fun c9 => ?_) (fun c9 => ?_)
    · replace h := sx_in h c9
      refine sx_iload_n dX6_best_104 rfl rfl ?_
      exact F6_best_105_ok l  v1 v2 v3 v4 v5 v6 v7 v2 q7 h hk9
    · replace h := sx_ip h c9
      refine sx_aload_n dX6_best_94 rfl rfl ?_
      refine sx_getR dX6_best_95 (hs := shX_0) (k9 := 0) (hf := rfl) cb_X6 ⟨by decide, rfl, gw_292⟩ ?_
      refine sx_getI dX6_best_98 (hs := shX_1) (k9 := 8) (hf := rfl) cb_X4 ⟨by decide, rfl, gw_113⟩ ?_
      refine sx_goto (tgt := 105) dX6_best_101 (by decide) ?_
      exact F6_best_105_ok l  v1 v2 v3 v4 v5 v6 v7 (gI q7 1 8) q7 h hk9
def F6_best_71  (v1 : Int32) (v2 : Int32) (v3 : Int32) (v4 : Int32) (v5 : Int32) (v6 : Int32) (v7 : Int32) (q : SQ) : Option (Int32 × SQ) := sx_loop (fun s33 => F6_best_71b  v1 v2 v3 s33.1 s33.2.1 s33.2.2.1 s33.2.2.2.1 s33.2.2.2.2) FU (v4, v5, v6, v7, q)
set_option maxHeartbeats 400000 in
theorem F6_best_71_ok (l : Launch)  {Q : Option Value → SQ → Prop} (v1 : Int32) (v2 : Int32) (v3 : Int32) (v4 : Int32) (v5 : Int32) (v6 : Int32) (v7 : Int32) (q : SQ) {t : Int32 × SQ} (h : F6_best_71  v1 v2 v3 v4 v5 v6 v7 q = some t) (hk9 : Q (some (.int t.1)) t.2) : PF6_best l Q 71 [(0, .ref 0), (1, .int v1), (2, .int v2), (3, .int v3), (4, .int v4), (5, .int v5), (6, .int v6), (7, .int v7)] [] q := by
  unfold F6_best_71 at h
  have st : ∀ (s : Int32 × Int32 × Int32 × Int32 × SQ) (res : (Int32 × Int32 × Int32 × Int32 × SQ) ⊕ (Int32 × SQ)), F6_best_71b  v1 v2 v3 s.1 s.2.1 s.2.2.1 s.2.2.2.1 s.2.2.2.2 = some res → (∀ s2, res = .inl s2 → PF6_best l Q 71 [(0, .ref 0), (1, .int v1), (2, .int v2), (3, .int v3), (4, .int s2.1), (5, .int s2.2.1), (6, .int s2.2.2.1), (7, .int s2.2.2.2.1)] [] s2.2.2.2.2) → (∀ t2, res = .inr t2 → Q (some (.int t2.1)) t2.2) → PF6_best l Q 71 [(0, .ref 0), (1, .int v1), (2, .int v2), (3, .int v3), (4, .int s.1), (5, .int s.2.1), (6, .int s.2.2.1), (7, .int s.2.2.2.1)] [] s.2.2.2.2 :=
    fun s res hb hi ho => F6_best_71b_ok l  v1 v2 v3 s.1 s.2.1 s.2.2.1 s.2.2.2.1 s.2.2.2.2 hb ⟨hi, ho⟩
  have h9 : PF6_best l Q 71 [(0, .ref 0), (1, .int v1), (2, .int v2), (3, .int v3), (4, .int v4), (5, .int v5), (6, .int v6), (7, .int v7)] [] q := sx_lp (body := fun s => F6_best_71b  v1 v2 v3 s.1 s.2.1 s.2.2.1 s.2.2.2.1 s.2.2.2.2) (P := fun s => PF6_best l Q 71 [(0, .ref 0), (1, .int v1), (2, .int v2), (3, .int v3), (4, .int s.1), (5, .int s.2.1), (6, .int s.2.2.1), (7, .int s.2.2.2.1)] [] s.2.2.2.2) (T := fun t => Q (some (.int t.1)) t.2) st FU (v4, v5, v6, v7, q) t h hk9
  exact h9
def F6_best  (v1 : Int32) (v2 : Int32) (v3 : Int32) (q : SQ) : Option (Int32 × SQ) :=
  (F6_isSort  v1 q).bind (fun z1 => (if z1.1 = 0 then F6_best_33   z1.2 else (F6_within  v2 (gI z1.2 1 8) (99 : Int32) z1.2).bind (fun z2 => (if z2.1 = 0 then F6_best_33   z2.2 else (F6_within  v3 (0 : Int32) (2 : Int32) z2.2).bind (fun z3 => (if z3.1 = 0 then F6_best_33   z3.2 else (F4_copyOf 41 1  z3.2).bind (fun z4 => (F4_payNothing 41  z4.2).bind (fun z5 => sx_let (gI z5.2 1 8) (fun x6 => F6_best_71  v1 v2 v3 (0 : Int32) x6 (-1 : Int32) (0 : Int32) z5.2)))))))))
set_option maxHeartbeats 400000 in
theorem F6_best_ok (l : Launch)  {Q : Option Value → SQ → Prop} (v1 : Int32) (v2 : Int32) (v3 : Int32) (q : SQ) {res : Int32 × SQ} (h : F6_best  v1 v2 v3 q = some res) (hk9 : Q (some (.int res.1)) res.2) : PF6_best l Q 0 [(0, .ref 0), (1, .int v1), (2, .int v2), (3, .int v3)] [] q := by
  unfold F6_best at h
  refine sx_aload_n dX6_best_0 rfl rfl ?_
  refine sx_iload_n dX6_best_1 rfl rfl ?_
  obtain ⟨z1, hz1, h⟩ := sx_bd h
  refine sx_callV (o := 0) (As := [.int v1]) (rest := []) KSX (F6_isSort_ck l  v1 q hz1) mi_X6_isSort gw_497 rfl ⟨gw_499, gw_14⟩ shX_0 rfl rfl ⟨Nat.le_of_ble_eq_true rfl, Nat.le_of_ble_eq_true rfl⟩ (Nat.le_of_ble_eq_true rfl) dX6_best_2 rfl ?_
  refine sx_if_eq (tgt := 33) dX6_best_5 (by decide) (fun c9 => ?_) (fun c9 => ?_)
  · replace h := sx_ip h c9
    refine sx_locs [] rfl ?_
    exact F6_best_33_ok l   z1.2 h hk9
  · replace h := sx_in h c9
    refine sx_iload_n dX6_best_8 rfl rfl ?_
    refine sx_aload_n dX6_best_9 rfl rfl ?_
    refine sx_getR dX6_best_10 (hs := shX_0) (k9 := 0) (hf := rfl) cb_X6 ⟨by decide, rfl, gw_292⟩ ?_
    refine sx_getI dX6_best_13 (hs := shX_1) (k9 := 8) (hf := rfl) cb_X4 ⟨by decide, rfl, gw_113⟩ ?_
    refine sx_bipush (v := (99 : Int32)) dX6_best_16 (by decide) ?_
    obtain ⟨z2, hz2, h⟩ := sx_bd h
    refine sx_callS (As := [.int v2, .int (gI z1.2 1 8), .int (99 : Int32)]) (rest := []) KSX (F6_within_ck l  v2 (gI z1.2 1 8) (99 : Int32) z1.2 hz2) mi_X6_within gw_333 rfl gw_334 ⟨Nat.le_of_ble_eq_true rfl, Nat.le_of_ble_eq_true rfl⟩ (Nat.le_of_ble_eq_true rfl) dX6_best_18 rfl ?_
    refine sx_if_eq (tgt := 33) dX6_best_21 (by decide) (fun c9 => ?_) (fun c9 => ?_)
    · replace h := sx_ip h c9
      refine sx_locs [] rfl ?_
      exact F6_best_33_ok l   z2.2 h hk9
    · replace h := sx_in h c9
      refine sx_iload_n dX6_best_24 rfl rfl ?_
      refine sx_iconst (v := (0 : Int32)) dX6_best_25 (by decide) ?_
      refine sx_iconst (v := (2 : Int32)) dX6_best_26 (by decide) ?_
      obtain ⟨z3, hz3, h⟩ := sx_bd h
      refine sx_callS (As := [.int v3, .int (0 : Int32), .int (2 : Int32)]) (rest := []) KSX (F6_within_ck l  v3 (0 : Int32) (2 : Int32) z2.2 hz3) mi_X6_within gw_333 rfl gw_334 ⟨Nat.le_of_ble_eq_true rfl, Nat.le_of_ble_eq_true rfl⟩ (Nat.le_of_ble_eq_true rfl) dX6_best_27 rfl ?_
      refine sx_if_ne (tgt := 35) dX6_best_30 (by decide) (fun c9 => ?_) (fun c9 => ?_)
      · replace h := sx_in h c9
        refine sx_aload_n dX6_best_35 rfl rfl ?_
        refine sx_getR dX6_best_36 (hs := shX_0) (k9 := 8) (hf := rfl) cb_X6 ⟨by decide, rfl, gw_300⟩ ?_
        refine sx_aload_n dX6_best_39 rfl rfl ?_
        refine sx_getR dX6_best_40 (hs := shX_0) (k9 := 0) (hf := rfl) cb_X6 ⟨by decide, rfl, gw_292⟩ ?_
        obtain ⟨z4, hz4, h⟩ := sx_bd h
        refine sx_callV (o := 41) (As := [.ref 1]) (rest := []) KSX (F4_copyOf_ck l 41 iSh_41 1 iSh_1  z3.2 hz4) mi_X4_copyOf gw_479 rfl ⟨gw_480, gw_481⟩ shX_41 rfl rfl ⟨Nat.le_of_ble_eq_true rfl, Nat.le_of_ble_eq_true rfl⟩ (Nat.le_of_ble_eq_true rfl) dX6_best_43 rfl ?_
        refine sx_aload_n dX6_best_46 rfl rfl ?_
        refine sx_getR dX6_best_47 (hs := shX_0) (k9 := 8) (hf := rfl) cb_X6 ⟨by decide, rfl, gw_300⟩ ?_
        obtain ⟨z5, hz5, h⟩ := sx_bd h
        refine sx_callV (o := 41) (As := []) (rest := []) KSX (F4_payNothing_ck l 41 iSh_41  z4.2 hz5) mi_X4_payNothing gw_603 rfl ⟨gw_285, gw_286⟩ shX_41 rfl rfl ⟨Nat.le_of_ble_eq_true rfl, Nat.le_of_ble_eq_true rfl⟩ (Nat.le_of_ble_eq_true rfl) dX6_best_50 rfl ?_
        refine sx_iconst (v := (0 : Int32)) dX6_best_53 (by decide) ?_
        refine sx_istore (ls2 := [(4, .int (0 : Int32)), (0, .ref 0), (1, .int v1), (2, .int v2), (3, .int v3)]) dX6_best_54 (by decide) rfl ?_
        refine sx_aload_n dX6_best_56 rfl rfl ?_
        refine sx_getR dX6_best_57 (hs := shX_0) (k9 := 0) (hf := rfl) cb_X6 ⟨by decide, rfl, gw_292⟩ ?_
        refine sx_getI dX6_best_60 (hs := shX_1) (k9 := 8) (hf := rfl) cb_X4 ⟨by decide, rfl, gw_113⟩ ?_
        obtain ⟨x6, ex6, h⟩ := sx_lt h
        refine sx_nmI ex6 ?_
        refine sx_istore (ls2 := [(5, .int x6), (4, .int (0 : Int32)), (0, .ref 0), (1, .int v1), (2, .int v2), (3, .int v3)]) dX6_best_63 (by decide) rfl ?_
        refine sx_iconst (v := (-1 : Int32)) dX6_best_65 (by decide) ?_
        refine sx_istore (ls2 := [(6, .int (-1 : Int32)), (5, .int x6), (4, .int (0 : Int32)), (0, .ref 0), (1, .int v1), (2, .int v2), (3, .int v3)]) dX6_best_66 (by decide) rfl ?_
        refine sx_iconst (v := (0 : Int32)) dX6_best_68 (by decide) ?_
        refine sx_istore (ls2 := [(7, .int (0 : Int32)), (6, .int (-1 : Int32)), (5, .int x6), (4, .int (0 : Int32)), (0, .ref 0), (1, .int v1), (2, .int v2), (3, .int v3)]) dX6_best_69 (by decide) rfl ?_
        refine sx_locs [4, 5, 6, 7, 3, 2, 1, 0] rfl ?_
        exact F6_best_71_ok l  v1 v2 v3 (0 : Int32) x6 (-1 : Int32) (0 : Int32) z5.2 h hk9
      · replace h := sx_ip h c9
        refine sx_locs [] rfl ?_
        exact F6_best_33_ok l   z3.2 h hk9
theorem F6_best_ck (l : Launch)  (v1 : Int32) (v2 : Int32) (v3 : Int32) (q : SQ) {r : Int32 × SQ} (h : F6_best  v1 v2 v3 q = some r) : CK shX vwCl KX tfX l yX6_best cX6_best 11 ((some .int)) 6 147 [.ref 0, .int v1, .int v2, .int v3] q (some (.int r.1)) r.2 :=
  CK.of mi_X6_best (Nat.le_of_ble_eq_true rfl) (F6_best_ok l  v1 v2 v3 q h ⟨rfl, rfl⟩)
theorem mi_X4_teachOne : sx_MI yX4_teachOne cX4_teachOne 4 (none) 3 := ⟨by decide, ⟨by decide, by decide, by decide +kernel⟩, gw_623, gw_61⟩
abbrev PF4_teachOne (l : Launch) (Q : Option Value → SQ → Prop) : Nat → List (Nat × Value) → List Value → SQ → Prop := XX shX vwCl KX tfX l RX4 cX4_teachOne 4 (none) { frames := 1, cells := 0, slots := 0, locals := 23 } Q
def F4_teachOne (k : Nat) (v1 : Int32) (v2 : Int32) (v3 : Int32) (q : SQ) : Option (Unit × SQ) :=
  sx_let (sI q k 0 (0 : Int32)) (fun q1 => (F4_addChild k v1 v2 v3 q1).bind (fun z2 => some ((), z2.2)))
set_option maxHeartbeats 400000 in
theorem F4_teachOne_ok (l : Launch) (k : Nat) (hk : iSh k) {Q : Option Value → SQ → Prop} (v1 : Int32) (v2 : Int32) (v3 : Int32) (q : SQ) {res : Unit × SQ} (h : F4_teachOne k v1 v2 v3 q = some res) (hk9 : Q none res.2) : PF4_teachOne l Q 0 [(0, .ref k), (1, .int v1), (2, .int v2), (3, .int v3)] [] q := by
  unfold F4_teachOne at h
  refine sx_aload_n dX4_teachOne_0 rfl rfl ?_
  refine sx_iconst (v := (0 : Int32)) dX4_teachOne_1 (by decide) ?_
  obtain ⟨q1, eq1, h⟩ := sx_lt h
  refine sx_putI dX4_teachOne_2 (hs := hk.1) (k9 := 0) (hf := rfl) cb_X4 ⟨by decide, rfl, gw_88⟩ rfl (by decide) ?_
  refine sx_nmQ eq1 ?_
  refine sx_aload_n dX4_teachOne_5 rfl rfl ?_
  refine sx_iload_n dX4_teachOne_6 rfl rfl ?_
  refine sx_iload_n dX4_teachOne_7 rfl rfl ?_
  refine sx_iload_n dX4_teachOne_8 rfl rfl ?_
  obtain ⟨z2, hz2, h⟩ := sx_bd h
  refine sx_callV (o := k) (As := [.int v1, .int v2, .int v3]) (rest := []) KSX (F4_addChild_ck l k hk v1 v2 v3 q1 hz2) mi_X4_addChild gw_624 rfl ⟨gw_451, gw_452⟩ hk.1 rfl rfl ⟨Nat.le_of_ble_eq_true rfl, Nat.le_of_ble_eq_true rfl⟩ (Nat.le_of_ble_eq_true rfl) dX4_teachOne_9 rfl ?_
  obtain rfl := Option.some.inj h
  exact sx_vret dX4_teachOne_12 rfl hk9
theorem F4_teachOne_ck (l : Launch) (k : Nat) (hk : iSh k) (v1 : Int32) (v2 : Int32) (v3 : Int32) (q : SQ) {r : Unit × SQ} (h : F4_teachOne k v1 v2 v3 q = some r) : CK shX vwCl KX tfX l yX4_teachOne cX4_teachOne 4 (none) 1 23 [.ref k, .int v1, .int v2, .int v3] q none r.2 :=
  CK.of mi_X4_teachOne (Nat.le_of_ble_eq_true rfl) (F4_teachOne_ok l k hk v1 v2 v3 q h ⟨rfl, rfl⟩)
theorem mi_X6_line : sx_MI yX6_line cX6_line 6 ((some .int)) 3 := ⟨by decide, ⟨by decide, by decide, by decide +kernel⟩, gw_619, gw_60⟩
abbrev PF6_line (l : Launch) (Q : Option Value → SQ → Prop) : Nat → List (Nat × Value) → List Value → SQ → Prop := XX shX vwCl KX tfX l RX6 cX6_line 6 ((some .int)) { frames := 6, cells := 0, slots := 0, locals := 147 } Q
def F6_line_27   (q : SQ) : Option (Int32 × SQ) :=
  some ((-1 : Int32), q)
set_option maxHeartbeats 400000 in
theorem F6_line_27_ok (l : Launch)  {Q : Option Value → SQ → Prop}  (q : SQ) {res : Int32 × SQ} (h : F6_line_27   q = some res) (hk9 : Q (some (.int res.1)) res.2) : PF6_line l Q 27 [] [] q := by
  unfold F6_line_27 at h
  refine sx_iconst (v := (-1 : Int32)) dX6_line_27 (by decide) ?_
  obtain rfl := Option.some.inj h
  exact sx_iret dX6_line_28 rfl hk9
def F6_line_32b  (v1 : Int32) (v2 : Int32) (v3 : Int32) (v4 : Int32) (q : SQ) : Option ((Int32 × SQ) ⊕ (Int32 × SQ)) :=
  (if (100 : Int32) < v4 then some (.inr ((-9 : Int32), q)) else (F4_copyOf 41 1  q).bind (fun z4 => (F4_teachOne 41 v4 v1 v2 z4.2).bind (fun z5 => (F6_likingOn  v3 z5.2).bind (fun z6 => sx_let z6.1 (fun x7 => (F4_payNothing 41  z6.2).bind (fun z8 => (F6_likingOn  v3 z8.2).bind (fun z9 => (if z9.1 ≤ x7 then sx_let (v4 + (1 : Int32)) (fun x10 => some (.inl (x10, z9.2))) else some (.inr (v4, z9.2))))))))))
set_option maxHeartbeats 400000 in
theorem F6_line_32b_ok (l : Launch)  {Q : Option Value → SQ → Prop} (v1 : Int32) (v2 : Int32) (v3 : Int32) (v4 : Int32) (q : SQ) {res : (Int32 × SQ) ⊕ (Int32 × SQ)} (h : F6_line_32b  v1 v2 v3 v4 q = some res) (hk9 : (∀ a11, res = .inl a11 → PF6_line l Q 32 [(0, .ref 0), (1, .int v1), (2, .int v2), (3, .int v3), (4, .int a11.1)] [] a11.2) ∧ (∀ b12, res = .inr b12 → Q (some (.int b12.1)) b12.2)) : PF6_line l Q 32 [(0, .ref 0), (1, .int v1), (2, .int v2), (3, .int v3), (4, .int v4)] [] q := by
  unfold F6_line_32b at h
  refine sx_iload dX6_line_32 rfl ?_
  refine sx_bipush (v := (100 : Int32)) dX6_line_34 (by decide) ?_
  refine sx_icmp_gt (tgt := 94) dX6_line_36 (by decide) (fun c9 => ?_) (fun c9 => ?_)
  · replace h := sx_ip h c9
    refine sx_bipush (v := (-9 : Int32)) dX6_line_94 (by decide) ?_
    have hk9 := hk9.2 _ (Option.some.inj h).symm
    exact sx_iret dX6_line_96 rfl hk9
  · replace h := sx_in h c9
    refine sx_aload_n dX6_line_39 rfl rfl ?_
    refine sx_getR dX6_line_40 (hs := shX_0) (k9 := 8) (hf := rfl) cb_X6 ⟨by decide, rfl, gw_300⟩ ?_
    refine sx_aload_n dX6_line_43 rfl rfl ?_
    refine sx_getR dX6_line_44 (hs := shX_0) (k9 := 0) (hf := rfl) cb_X6 ⟨by decide, rfl, gw_292⟩ ?_
    obtain ⟨z4, hz4, h⟩ := sx_bd h
    refine sx_callV (o := 41) (As := [.ref 1]) (rest := []) KSX (F4_copyOf_ck l 41 iSh_41 1 iSh_1  q hz4) mi_X4_copyOf gw_479 rfl ⟨gw_480, gw_481⟩ shX_41 rfl rfl ⟨Nat.le_of_ble_eq_true rfl, Nat.le_of_ble_eq_true rfl⟩ (Nat.le_of_ble_eq_true rfl) dX6_line_47 rfl ?_
    refine sx_aload_n dX6_line_50 rfl rfl ?_
    refine sx_getR dX6_line_51 (hs := shX_0) (k9 := 8) (hf := rfl) cb_X6 ⟨by decide, rfl, gw_300⟩ ?_
    refine sx_iload dX6_line_54 rfl ?_
    refine sx_iload_n dX6_line_56 rfl rfl ?_
    refine sx_iload_n dX6_line_57 rfl rfl ?_
    obtain ⟨z5, hz5, h⟩ := sx_bd h
    refine sx_callV (o := 41) (As := [.int v4, .int v1, .int v2]) (rest := []) KSX (F4_teachOne_ck l 41 iSh_41 v4 v1 v2 z4.2 hz5) mi_X4_teachOne gw_620 rfl ⟨gw_621, gw_622⟩ shX_41 rfl rfl ⟨Nat.le_of_ble_eq_true rfl, Nat.le_of_ble_eq_true rfl⟩ (Nat.le_of_ble_eq_true rfl) dX6_line_58 rfl ?_
    refine sx_aload_n dX6_line_61 rfl rfl ?_
    refine sx_iload_n dX6_line_62 rfl rfl ?_
    obtain ⟨z6, hz6, h⟩ := sx_bd h
    refine sx_callV (o := 0) (As := [.int v3]) (rest := []) KSX (F6_likingOn_ck l  v3 z5.2 hz6) mi_X6_likingOn gw_608 rfl ⟨gw_610, gw_18⟩ shX_0 rfl rfl ⟨Nat.le_of_ble_eq_true rfl, Nat.le_of_ble_eq_true rfl⟩ (Nat.le_of_ble_eq_true rfl) dX6_line_63 rfl ?_
    obtain ⟨x7, ex7, h⟩ := sx_lt h
    refine sx_nmI ex7 ?_
    refine sx_istore (ls2 := [(5, .int x7), (0, .ref 0), (1, .int v1), (2, .int v2), (3, .int v3), (4, .int v4)]) dX6_line_66 (by decide) rfl ?_
    refine sx_aload_n dX6_line_68 rfl rfl ?_
    refine sx_getR dX6_line_69 (hs := shX_0) (k9 := 8) (hf := rfl) cb_X6 ⟨by decide, rfl, gw_300⟩ ?_
    obtain ⟨z8, hz8, h⟩ := sx_bd h
    refine sx_callV (o := 41) (As := []) (rest := []) KSX (F4_payNothing_ck l 41 iSh_41  z6.2 hz8) mi_X4_payNothing gw_603 rfl ⟨gw_285, gw_286⟩ shX_41 rfl rfl ⟨Nat.le_of_ble_eq_true rfl, Nat.le_of_ble_eq_true rfl⟩ (Nat.le_of_ble_eq_true rfl) dX6_line_72 rfl ?_
    refine sx_iload dX6_line_75 rfl ?_
    refine sx_aload_n dX6_line_77 rfl rfl ?_
    refine sx_iload_n dX6_line_78 rfl rfl ?_
    obtain ⟨z9, hz9, h⟩ := sx_bd h
    refine sx_callV (o := 0) (As := [.int v3]) (rest := [.int x7]) KSX (F6_likingOn_ck l  v3 z8.2 hz9) mi_X6_likingOn gw_608 rfl ⟨gw_610, gw_18⟩ shX_0 rfl rfl ⟨Nat.le_of_ble_eq_true rfl, Nat.le_of_ble_eq_true rfl⟩ (Nat.le_of_ble_eq_true rfl) dX6_line_79 rfl ?_
    refine sx_icmp_ge (tgt := 88) dX6_line_82 (by decide) (fun c9 => ?_) (fun c9 => ?_)
    · replace h := sx_ip h c9
      obtain ⟨x10, ex10, h⟩ := sx_lt h
      refine sx_iinc (k9 := 5) (v := x10) (ls2 := [(4, .int x10), (5, .int x7), (0, .ref 0), (1, .int v1), (2, .int v2), (3, .int v3)]) dX6_line_88 rfl (by rw [ex10, sx_ofI1]) (by decide) rfl ?_
      refine sx_goto (tgt := 32) dX6_line_91 (by decide) ?_
      refine sx_locs [2, 3, 4, 5, 0] rfl ?_
      exact hk9.1 (x10, z9.2) (Option.some.inj h).symm
    · replace h := sx_in h c9
      refine sx_iload dX6_line_85 rfl ?_
      have hk9 := hk9.2 _ (Option.some.inj h).symm
      exact sx_iret dX6_line_87 rfl hk9
def F6_line_32  (v1 : Int32) (v2 : Int32) (v3 : Int32) (v4 : Int32) (q : SQ) : Option (Int32 × SQ) := sx_loop (fun s13 => F6_line_32b  v1 v2 v3 s13.1 s13.2) FU (v4, q)
set_option maxHeartbeats 400000 in
theorem F6_line_32_ok (l : Launch)  {Q : Option Value → SQ → Prop} (v1 : Int32) (v2 : Int32) (v3 : Int32) (v4 : Int32) (q : SQ) {t : Int32 × SQ} (h : F6_line_32  v1 v2 v3 v4 q = some t) (hk9 : Q (some (.int t.1)) t.2) : PF6_line l Q 32 [(0, .ref 0), (1, .int v1), (2, .int v2), (3, .int v3), (4, .int v4)] [] q := by
  unfold F6_line_32 at h
  have st : ∀ (s : Int32 × SQ) (res : (Int32 × SQ) ⊕ (Int32 × SQ)), F6_line_32b  v1 v2 v3 s.1 s.2 = some res → (∀ s2, res = .inl s2 → PF6_line l Q 32 [(0, .ref 0), (1, .int v1), (2, .int v2), (3, .int v3), (4, .int s2.1)] [] s2.2) → (∀ t2, res = .inr t2 → Q (some (.int t2.1)) t2.2) → PF6_line l Q 32 [(0, .ref 0), (1, .int v1), (2, .int v2), (3, .int v3), (4, .int s.1)] [] s.2 :=
    fun s res hb hi ho => F6_line_32b_ok l  v1 v2 v3 s.1 s.2 hb ⟨hi, ho⟩
  have h9 : PF6_line l Q 32 [(0, .ref 0), (1, .int v1), (2, .int v2), (3, .int v3), (4, .int v4)] [] q := sx_lp (body := fun s => F6_line_32b  v1 v2 v3 s.1 s.2) (P := fun s => PF6_line l Q 32 [(0, .ref 0), (1, .int v1), (2, .int v2), (3, .int v3), (4, .int s.1)] [] s.2) (T := fun t => Q (some (.int t.1)) t.2) st FU (v4, q) t h hk9
  exact h9
def F6_line  (v1 : Int32) (v2 : Int32) (v3 : Int32) (q : SQ) : Option (Int32 × SQ) :=
  (F6_within  v1 (1 : Int32) (9 : Int32) q).bind (fun z1 => (if z1.1 = 0 then F6_line_27   z1.2 else (F6_within  v2 (0 : Int32) (9 : Int32) z1.2).bind (fun z2 => (if z2.1 = 0 then F6_line_27   z2.2 else (F6_isDay  v3 z2.2).bind (fun z3 => (if z3.1 = 0 then F6_line_27   z3.2 else F6_line_32  v1 v2 v3 (0 : Int32) z3.2))))))
set_option maxHeartbeats 400000 in
theorem F6_line_ok (l : Launch)  {Q : Option Value → SQ → Prop} (v1 : Int32) (v2 : Int32) (v3 : Int32) (q : SQ) {res : Int32 × SQ} (h : F6_line  v1 v2 v3 q = some res) (hk9 : Q (some (.int res.1)) res.2) : PF6_line l Q 0 [(0, .ref 0), (1, .int v1), (2, .int v2), (3, .int v3)] [] q := by
  unfold F6_line at h
  refine sx_iload_n dX6_line_0 rfl rfl ?_
  refine sx_iconst (v := (1 : Int32)) dX6_line_1 (by decide) ?_
  refine sx_bipush (v := (9 : Int32)) dX6_line_2 (by decide) ?_
  obtain ⟨z1, hz1, h⟩ := sx_bd h
  refine sx_callS (As := [.int v1, .int (1 : Int32), .int (9 : Int32)]) (rest := []) KSX (F6_within_ck l  v1 (1 : Int32) (9 : Int32) q hz1) mi_X6_within gw_333 rfl gw_334 ⟨Nat.le_of_ble_eq_true rfl, Nat.le_of_ble_eq_true rfl⟩ (Nat.le_of_ble_eq_true rfl) dX6_line_4 rfl ?_
  refine sx_if_eq (tgt := 27) dX6_line_7 (by decide) (fun c9 => ?_) (fun c9 => ?_)
  · replace h := sx_ip h c9
    refine sx_locs [] rfl ?_
    exact F6_line_27_ok l   z1.2 h hk9
  · replace h := sx_in h c9
    refine sx_iload_n dX6_line_10 rfl rfl ?_
    refine sx_iconst (v := (0 : Int32)) dX6_line_11 (by decide) ?_
    refine sx_bipush (v := (9 : Int32)) dX6_line_12 (by decide) ?_
    obtain ⟨z2, hz2, h⟩ := sx_bd h
    refine sx_callS (As := [.int v2, .int (0 : Int32), .int (9 : Int32)]) (rest := []) KSX (F6_within_ck l  v2 (0 : Int32) (9 : Int32) z1.2 hz2) mi_X6_within gw_333 rfl gw_334 ⟨Nat.le_of_ble_eq_true rfl, Nat.le_of_ble_eq_true rfl⟩ (Nat.le_of_ble_eq_true rfl) dX6_line_14 rfl ?_
    refine sx_if_eq (tgt := 27) dX6_line_17 (by decide) (fun c9 => ?_) (fun c9 => ?_)
    · replace h := sx_ip h c9
      refine sx_locs [] rfl ?_
      exact F6_line_27_ok l   z2.2 h hk9
    · replace h := sx_in h c9
      refine sx_iload_n dX6_line_20 rfl rfl ?_
      obtain ⟨z3, hz3, h⟩ := sx_bd h
      refine sx_callS (As := [.int v3]) (rest := []) KSX (F6_isDay_ck l  v3 z2.2 hz3) mi_X6_isDay gw_515 rfl gw_516 ⟨Nat.le_of_ble_eq_true rfl, Nat.le_of_ble_eq_true rfl⟩ (Nat.le_of_ble_eq_true rfl) dX6_line_21 rfl ?_
      refine sx_if_ne (tgt := 29) dX6_line_24 (by decide) (fun c9 => ?_) (fun c9 => ?_)
      · replace h := sx_in h c9
        refine sx_iconst (v := (0 : Int32)) dX6_line_29 (by decide) ?_
        refine sx_istore (ls2 := [(4, .int (0 : Int32)), (0, .ref 0), (1, .int v1), (2, .int v2), (3, .int v3)]) dX6_line_30 (by decide) rfl ?_
        refine sx_locs [1, 2, 3, 4, 0] rfl ?_
        exact F6_line_32_ok l  v1 v2 v3 (0 : Int32) z3.2 h hk9
      · replace h := sx_ip h c9
        refine sx_locs [] rfl ?_
        exact F6_line_27_ok l   z3.2 h hk9
theorem F6_line_ck (l : Launch)  (v1 : Int32) (v2 : Int32) (v3 : Int32) (q : SQ) {r : Int32 × SQ} (h : F6_line  v1 v2 v3 q = some r) : CK shX vwCl KX tfX l yX6_line cX6_line 6 ((some .int)) 6 147 [.ref 0, .int v1, .int v2, .int v3] q (some (.int r.1)) r.2 :=
  CK.of mi_X6_line (Nat.le_of_ble_eq_true rfl) (F6_line_ok l  v1 v2 v3 q h ⟨rfl, rfl⟩)
