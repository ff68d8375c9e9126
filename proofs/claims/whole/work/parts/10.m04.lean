theorem mi_X6_ending : sx_MI yX6_ending cX6_ending 6 ((some .int)) 1 := ⟨by decide, ⟨by decide, by decide, by decide +kernel⟩, gw_628, gw_60⟩
abbrev PF6_ending (l : Launch) (Q : Option Value → SQ → Prop) : Nat → List (Nat × Value) → List Value → SQ → Prop := XX shX vwCl KX tfX l RX6 cX6_ending 6 ((some .int)) { frames := 6, cells := 0, slots := 0, locals := 147 } Q
def F6_ending_62  (v1 : Int32) (v2 : Int32) (v3 : Int32) (v4 : Int32) (q : SQ) : Option ((Int32 × Int32 × Int32 × SQ) ⊕ (Int32 × SQ)) :=
  sx_let (v4 + (1 : Int32)) (fun x6 => some (.inl (v2, v3, x6, q)))
set_option maxHeartbeats 400000 in
theorem F6_ending_62_ok (l : Launch)  {Q : Option Value → SQ → Prop} (v1 : Int32) (v2 : Int32) (v3 : Int32) (v4 : Int32) (q : SQ) {res : (Int32 × Int32 × Int32 × SQ) ⊕ (Int32 × SQ)} (h : F6_ending_62  v1 v2 v3 v4 q = some res) (hk9 : (∀ a7, res = .inl a7 → PF6_ending l Q 27 [(0, .ref 0), (1, .int v1), (2, .int a7.1), (3, .int a7.2.1), (4, .int a7.2.2.1)] [] a7.2.2.2) ∧ (∀ b8, res = .inr b8 → Q (some (.int b8.1)) b8.2)) : PF6_ending l Q 62 [(0, .ref 0), (1, .int v1), (2, .int v2), (3, .int v3), (4, .int v4)] [] q := by
  unfold F6_ending_62 at h
  obtain ⟨x6, ex6, h⟩ := sx_lt h
  refine sx_iinc (k9 := 4) (v := x6) (ls2 := [(4, .int x6), (0, .ref 0), (1, .int v1), (2, .int v2), (3, .int v3)]) dX6_ending_62 rfl (by rw [ex6, sx_ofI1]) (by decide) rfl ?_
  refine sx_goto (tgt := 27) dX6_ending_65 (by decide) ?_
  refine sx_locs [1, 2, 3, 4, 0] rfl ?_
  exact hk9.1 (v2, v3, x6, q) (Option.some.inj h).symm
def F6_ending_27b  (v1 : Int32) (v2 : Int32) (v3 : Int32) (v4 : Int32) (q : SQ) : Option ((Int32 × Int32 × Int32 × SQ) ⊕ (Int32 × SQ)) :=
  (if (20 : Int32) < v4 then some (.inr (v2, q)) else sx_let (sI q 41 10 v4) (fun q3 => (F6_likingOn  v1 q3).bind (fun z4 => sx_let z4.1 (fun x5 => (if x5 ≤ v3 then F6_ending_62  v1 v2 v3 v4 z4.2 else F6_ending_62  v1 v4 x5 v4 z4.2)))))
set_option maxHeartbeats 400000 in
theorem F6_ending_27b_ok (l : Launch)  {Q : Option Value → SQ → Prop} (v1 : Int32) (v2 : Int32) (v3 : Int32) (v4 : Int32) (q : SQ) {res : (Int32 × Int32 × Int32 × SQ) ⊕ (Int32 × SQ)} (h : F6_ending_27b  v1 v2 v3 v4 q = some res) (hk9 : (∀ a9, res = .inl a9 → PF6_ending l Q 27 [(0, .ref 0), (1, .int v1), (2, .int a9.1), (3, .int a9.2.1), (4, .int a9.2.2.1)] [] a9.2.2.2) ∧ (∀ b10, res = .inr b10 → Q (some (.int b10.1)) b10.2)) : PF6_ending l Q 27 [(0, .ref 0), (1, .int v1), (2, .int v2), (3, .int v3), (4, .int v4)] [] q := by
  unfold F6_ending_27b at h
  refine sx_iload dX6_ending_27 rfl ?_
  refine sx_bipush (v := (20 : Int32)) dX6_ending_29 (by decide) ?_
  refine sx_icmp_gt (tgt := 68) dX6_ending_31 (by decide) (fun c9 => ?_) (fun c9 => ?_)
  · replace h := sx_ip h c9
    refine sx_iload_n dX6_ending_68 rfl rfl ?_
    have hk9 := hk9.2 _ (Option.some.inj h).symm
    exact sx_iret dX6_ending_69 rfl hk9
  · replace h := sx_in h c9
    refine sx_aload_n dX6_ending_34 rfl rfl ?_
    refine sx_getR dX6_ending_35 (hs := shX_0) (k9 := 8) (hf := rfl) cb_X6 ⟨by decide, rfl, gw_300⟩ ?_
    refine sx_iload dX6_ending_38 rfl ?_
    obtain ⟨q3, eq3, h⟩ := sx_lt h
    refine sx_putI dX6_ending_40 (hs := shX_41) (k9 := 10) (hf := rfl) cb_X4 ⟨by decide, rfl, gw_117⟩ rfl (by decide) ?_
    refine sx_nmQ eq3 ?_
    refine sx_aload_n dX6_ending_43 rfl rfl ?_
    refine sx_iload_n dX6_ending_44 rfl rfl ?_
    obtain ⟨z4, hz4, h⟩ := sx_bd h
    refine sx_callV (o := 0) (As := [.int v1]) (rest := []) KSX (F6_likingOn_ck l  v1 q3 hz4) mi_X6_likingOn gw_608 rfl ⟨gw_610, gw_18⟩ shX_0 rfl rfl ⟨Nat.le_of_ble_eq_true rfl, Nat.le_of_ble_eq_true rfl⟩ (Nat.le_of_ble_eq_true rfl) dX6_ending_45 rfl ?_
    obtain ⟨x5, ex5, h⟩ := sx_lt h
    refine sx_nmI ex5 ?_
    refine sx_istore (ls2 := [(5, .int x5), (0, .ref 0), (1, .int v1), (2, .int v2), (3, .int v3), (4, .int v4)]) dX6_ending_48 (by decide) rfl ?_
    refine sx_iload dX6_ending_50 rfl ?_
    refine sx_iload_n dX6_ending_52 rfl rfl ?_
    refine sx_icmp_le (tgt := 62) dX6_ending_53 (by decide) (fun c9 => ?_) (fun c9 => ?_)
    · replace h := sx_ip h c9
      refine sx_locs [1, 2, 3, 4, 5] rfl ?_
      exact F6_ending_62_ok l  v1 v2 v3 v4 z4.2 h hk9
    · replace h := sx_in h c9
      refine sx_iload dX6_ending_56 rfl ?_
      refine sx_istore_n (ls2 := [(2, .int v4), (5, .int x5), (0, .ref 0), (1, .int v1), (3, .int v3), (4, .int v4)]) dX6_ending_58 rfl (by decide) rfl ?_
      refine sx_iload dX6_ending_59 rfl ?_
      refine sx_istore_n (ls2 := [(3, .int x5), (2, .int v4), (5, .int x5), (0, .ref 0), (1, .int v1), (4, .int v4)]) dX6_ending_61 rfl (by decide) rfl ?_
      refine sx_locs [3, 4, 1, 0, 5] rfl ?_
      exact F6_ending_62_ok l  v1 v4 x5 v4 z4.2 h hk9
def F6_ending_27  (v1 : Int32) (v2 : Int32) (v3 : Int32) (v4 : Int32) (q : SQ) : Option (Int32 × SQ) := sx_loop (fun s11 => F6_ending_27b  v1 s11.1 s11.2.1 s11.2.2.1 s11.2.2.2) FU (v2, v3, v4, q)
set_option maxHeartbeats 400000 in
theorem F6_ending_27_ok (l : Launch)  {Q : Option Value → SQ → Prop} (v1 : Int32) (v2 : Int32) (v3 : Int32) (v4 : Int32) (q : SQ) {t : Int32 × SQ} (h : F6_ending_27  v1 v2 v3 v4 q = some t) (hk9 : Q (some (.int t.1)) t.2) : PF6_ending l Q 27 [(0, .ref 0), (1, .int v1), (2, .int v2), (3, .int v3), (4, .int v4)] [] q := by
  unfold F6_ending_27 at h
  have st : ∀ (s : Int32 × Int32 × Int32 × SQ) (res : (Int32 × Int32 × Int32 × SQ) ⊕ (Int32 × SQ)), F6_ending_27b  v1 s.1 s.2.1 s.2.2.1 s.2.2.2 = some res → (∀ s2, res = .inl s2 → PF6_ending l Q 27 [(0, .ref 0), (1, .int v1), (2, .int s2.1), (3, .int s2.2.1), (4, .int s2.2.2.1)] [] s2.2.2.2) → (∀ t2, res = .inr t2 → Q (some (.int t2.1)) t2.2) → PF6_ending l Q 27 [(0, .ref 0), (1, .int v1), (2, .int s.1), (3, .int s.2.1), (4, .int s.2.2.1)] [] s.2.2.2 :=
    fun s res hb hi ho => F6_ending_27b_ok l  v1 s.1 s.2.1 s.2.2.1 s.2.2.2 hb ⟨hi, ho⟩
  have h9 : PF6_ending l Q 27 [(0, .ref 0), (1, .int v1), (2, .int v2), (3, .int v3), (4, .int v4)] [] q := sx_lp (body := fun s => F6_ending_27b  v1 s.1 s.2.1 s.2.2.1 s.2.2.2) (P := fun s => PF6_ending l Q 27 [(0, .ref 0), (1, .int v1), (2, .int s.1), (3, .int s.2.1), (4, .int s.2.2.1)] [] s.2.2.2) (T := fun t => Q (some (.int t.1)) t.2) st FU (v2, v3, v4, q) t h hk9
  exact h9
def F6_ending  (v1 : Int32) (q : SQ) : Option (Int32 × SQ) :=
  (F6_isDay  v1 q).bind (fun z1 => (if z1.1 = 0 then some ((-1 : Int32), z1.2) else (F4_copyOf 41 1  z1.2).bind (fun z2 => F6_ending_27  v1 (0 : Int32) (-1 : Int32) (0 : Int32) z2.2)))
set_option maxHeartbeats 400000 in
theorem F6_ending_ok (l : Launch)  {Q : Option Value → SQ → Prop} (v1 : Int32) (q : SQ) {res : Int32 × SQ} (h : F6_ending  v1 q = some res) (hk9 : Q (some (.int res.1)) res.2) : PF6_ending l Q 0 [(0, .ref 0), (1, .int v1)] [] q := by
  unfold F6_ending at h
  refine sx_iload_n dX6_ending_0 rfl rfl ?_
  obtain ⟨z1, hz1, h⟩ := sx_bd h
  refine sx_callS (As := [.int v1]) (rest := []) KSX (F6_isDay_ck l  v1 q hz1) mi_X6_isDay gw_515 rfl gw_516 ⟨Nat.le_of_ble_eq_true rfl, Nat.le_of_ble_eq_true rfl⟩ (Nat.le_of_ble_eq_true rfl) dX6_ending_1 rfl ?_
  refine sx_if_ne (tgt := 9) dX6_ending_4 (by decide) (fun c9 => ?_) (fun c9 => ?_)
  · replace h := sx_in h c9
    refine sx_aload_n dX6_ending_9 rfl rfl ?_
    refine sx_getR dX6_ending_10 (hs := shX_0) (k9 := 8) (hf := rfl) cb_X6 ⟨by decide, rfl, gw_300⟩ ?_
    refine sx_aload_n dX6_ending_13 rfl rfl ?_
    refine sx_getR dX6_ending_14 (hs := shX_0) (k9 := 0) (hf := rfl) cb_X6 ⟨by decide, rfl, gw_292⟩ ?_
    obtain ⟨z2, hz2, h⟩ := sx_bd h
    refine sx_callV (o := 41) (As := [.ref 1]) (rest := []) KSX (F4_copyOf_ck l 41 iSh_41 1 iSh_1  z1.2 hz2) mi_X4_copyOf gw_479 rfl ⟨gw_480, gw_481⟩ shX_41 rfl rfl ⟨Nat.le_of_ble_eq_true rfl, Nat.le_of_ble_eq_true rfl⟩ (Nat.le_of_ble_eq_true rfl) dX6_ending_17 rfl ?_
    refine sx_iconst (v := (0 : Int32)) dX6_ending_20 (by decide) ?_
    refine sx_istore_n (ls2 := [(2, .int (0 : Int32)), (0, .ref 0), (1, .int v1)]) dX6_ending_21 rfl (by decide) rfl ?_
    refine sx_iconst (v := (-1 : Int32)) dX6_ending_22 (by decide) ?_
    refine sx_istore_n (ls2 := [(3, .int (-1 : Int32)), (2, .int (0 : Int32)), (0, .ref 0), (1, .int v1)]) dX6_ending_23 rfl (by decide) rfl ?_
    refine sx_iconst (v := (0 : Int32)) dX6_ending_24 (by decide) ?_
    refine sx_istore (ls2 := [(4, .int (0 : Int32)), (3, .int (-1 : Int32)), (2, .int (0 : Int32)), (0, .ref 0), (1, .int v1)]) dX6_ending_25 (by decide) rfl ?_
    refine sx_locs [3, 4, 2, 1, 0] rfl ?_
    exact F6_ending_27_ok l  v1 (0 : Int32) (-1 : Int32) (0 : Int32) z2.2 h hk9
  · replace h := sx_ip h c9
    refine sx_iconst (v := (-1 : Int32)) dX6_ending_7 (by decide) ?_
    obtain rfl := Option.some.inj h
    exact sx_iret dX6_ending_8 rfl hk9
theorem F6_ending_ck (l : Launch)  (v1 : Int32) (q : SQ) {r : Int32 × SQ} (h : F6_ending  v1 q = some r) : CK shX vwCl KX tfX l yX6_ending cX6_ending 6 ((some .int)) 6 147 [.ref 0, .int v1] q (some (.int r.1)) r.2 :=
  CK.of mi_X6_ending (Nat.le_of_ble_eq_true rfl) (F6_ending_ok l  v1 q h ⟨rfl, rfl⟩)
theorem mi_X6_easy : sx_MI yX6_easy cX6_easy 4 ((some .int)) 0 := ⟨by decide, ⟨by decide, by decide, by decide +kernel⟩, gw_632, gw_60⟩
abbrev PF6_easy (l : Launch) (Q : Option Value → SQ → Prop) : Nat → List (Nat × Value) → List Value → SQ → Prop := XX shX vwCl KX tfX l RX6 cX6_easy 4 ((some .int)) { frames := 4, cells := 0, slots := 0, locals := 96 } Q
def F6_easy_84  (v1 : Int32) (v2 : Int32) (v3 : Int32) (q : SQ) : Option ((Int32 × Int32 × SQ) ⊕ (Int32 × SQ)) :=
  sx_let (v3 + (1 : Int32)) (fun x2 => some (.inl (v2, x2, q)))
set_option maxHeartbeats 400000 in
theorem F6_easy_84_ok (l : Launch)  {Q : Option Value → SQ → Prop} (v1 : Int32) (v2 : Int32) (v3 : Int32) (q : SQ) {res : (Int32 × Int32 × SQ) ⊕ (Int32 × SQ)} (h : F6_easy_84  v1 v2 v3 q = some res) (hk9 : (∀ a3, res = .inl a3 → PF6_easy l Q 48 [(0, .ref 0), (1, .int v1), (2, .int a3.1), (3, .int a3.2.1)] [] a3.2.2) ∧ (∀ b4, res = .inr b4 → Q (some (.int b4.1)) b4.2)) : PF6_easy l Q 84 [(0, .ref 0), (1, .int v1), (2, .int v2), (3, .int v3)] [] q := by
  unfold F6_easy_84 at h
  obtain ⟨x2, ex2, h⟩ := sx_lt h
  refine sx_iinc (k9 := 3) (v := x2) (ls2 := [(3, .int x2), (0, .ref 0), (1, .int v1), (2, .int v2)]) dX6_easy_84 rfl (by rw [ex2, sx_ofI1]) (by decide) rfl ?_
  refine sx_goto (tgt := 48) dX6_easy_87 (by decide) ?_
  refine sx_locs [1, 2, 3, 0] rfl ?_
  exact hk9.1 (v2, x2, q) (Option.some.inj h).symm
def F6_easy_48b  (v1 : Int32) (v2 : Int32) (v3 : Int32) (q : SQ) : Option ((Int32 × Int32 × SQ) ⊕ (Int32 × SQ)) :=
  (if gI q 1 0 ≤ v3 then some (.inr (v2, q)) else (F0_choiceOf 19 1 v3 (gI q 23 0) q).bind (fun z1 => (if z1.1 = v1 then sx_let (v2 + (1 : Int32)) (fun x5 => F6_easy_84  v1 x5 v3 z1.2) else F6_easy_84  v1 v2 v3 z1.2)))
set_option maxHeartbeats 400000 in
theorem F6_easy_48b_ok (l : Launch)  {Q : Option Value → SQ → Prop} (v1 : Int32) (v2 : Int32) (v3 : Int32) (q : SQ) {res : (Int32 × Int32 × SQ) ⊕ (Int32 × SQ)} (h : F6_easy_48b  v1 v2 v3 q = some res) (hk9 : (∀ a6, res = .inl a6 → PF6_easy l Q 48 [(0, .ref 0), (1, .int v1), (2, .int a6.1), (3, .int a6.2.1)] [] a6.2.2) ∧ (∀ b7, res = .inr b7 → Q (some (.int b7.1)) b7.2)) : PF6_easy l Q 48 [(0, .ref 0), (1, .int v1), (2, .int v2), (3, .int v3)] [] q := by
  unfold F6_easy_48b at h
  refine sx_iload_n dX6_easy_48 rfl rfl ?_
  refine sx_aload_n dX6_easy_49 rfl rfl ?_
  refine sx_getR dX6_easy_50 (hs := shX_0) (k9 := 0) (hf := rfl) cb_X6 ⟨by decide, rfl, gw_292⟩ ?_
  refine sx_getI dX6_easy_53 (hs := shX_1) (k9 := 0) (hf := rfl) cb_X4 ⟨by decide, rfl, gw_90⟩ ?_
  refine sx_icmp_ge (tgt := 90) dX6_easy_56 (by decide) (fun c9 => ?_) (fun c9 => ?_)
  · replace h := sx_ip h c9
    refine sx_iload_n dX6_easy_90 rfl rfl ?_
    have hk9 := hk9.2 _ (Option.some.inj h).symm
    exact sx_iret dX6_easy_91 rfl hk9
  · replace h := sx_in h c9
    refine sx_aload_n dX6_easy_59 rfl rfl ?_
    refine sx_getR dX6_easy_60 (hs := shX_0) (k9 := 2) (hf := rfl) cb_X6 ⟨by decide, rfl, gw_294⟩ ?_
    refine sx_aload_n dX6_easy_63 rfl rfl ?_
    refine sx_getR dX6_easy_64 (hs := shX_0) (k9 := 0) (hf := rfl) cb_X6 ⟨by decide, rfl, gw_292⟩ ?_
    refine sx_iload_n dX6_easy_67 rfl rfl ?_
    refine sx_aload_n dX6_easy_68 rfl rfl ?_
    refine sx_getR dX6_easy_69 (hs := shX_0) (k9 := 3) (hf := rfl) cb_X6 ⟨by decide, rfl, gw_295⟩ ?_
    refine sx_iconst (v := (0 : Int32)) dX6_easy_72 (by decide) ?_
    refine sx_ialdC (j9 := 0) dX6_easy_73 shX_23 (fun _ _ => rfl) (by decide) (by decide) ?_
    obtain ⟨z1, hz1, h⟩ := sx_bd h
    refine sx_callV (o := 19) (As := [.ref 1, .int v3, .int (gI q 23 0)]) (rest := []) KSX (F0_choiceOf_ck l 19 iCo_19 1 iSh_1 v3 (gI q 23 0) q hz1) mi_X0_choiceOf gw_550 rfl ⟨gw_551, gw_552⟩ shX_19 rfl rfl ⟨Nat.le_of_ble_eq_true rfl, Nat.le_of_ble_eq_true rfl⟩ (Nat.le_of_ble_eq_true rfl) dX6_easy_74 rfl ?_
    refine sx_iload_n dX6_easy_77 rfl rfl ?_
    refine sx_icmp_ne (tgt := 84) dX6_easy_78 (by decide) (fun c9 => ?_) (fun c9 => ?_)
    · replace h := sx_in h c9
      exact F6_easy_84_ok l  v1 v2 v3 z1.2 h hk9
    · replace h := sx_ip h c9
      obtain ⟨x5, ex5, h⟩ := sx_lt h
      refine sx_iinc (k9 := 2) (v := x5) (ls2 := [(2, .int x5), (0, .ref 0), (1, .int v1), (3, .int v3)]) dX6_easy_81 rfl (by rw [ex5, sx_ofI1]) (by decide) rfl ?_
      refine sx_locs [1, 2, 0, 3] rfl ?_
      exact F6_easy_84_ok l  v1 x5 v3 z1.2 h hk9
def F6_easy_48  (v1 : Int32) (v2 : Int32) (v3 : Int32) (q : SQ) : Option (Int32 × SQ) := sx_loop (fun s8 => F6_easy_48b  v1 s8.1 s8.2.1 s8.2.2) FU (v2, v3, q)
set_option maxHeartbeats 400000 in
theorem F6_easy_48_ok (l : Launch)  {Q : Option Value → SQ → Prop} (v1 : Int32) (v2 : Int32) (v3 : Int32) (q : SQ) {t : Int32 × SQ} (h : F6_easy_48  v1 v2 v3 q = some t) (hk9 : Q (some (.int t.1)) t.2) : PF6_easy l Q 48 [(0, .ref 0), (1, .int v1), (2, .int v2), (3, .int v3)] [] q := by
  unfold F6_easy_48 at h
  have st : ∀ (s : Int32 × Int32 × SQ) (res : (Int32 × Int32 × SQ) ⊕ (Int32 × SQ)), F6_easy_48b  v1 s.1 s.2.1 s.2.2 = some res → (∀ s2, res = .inl s2 → PF6_easy l Q 48 [(0, .ref 0), (1, .int v1), (2, .int s2.1), (3, .int s2.2.1)] [] s2.2.2) → (∀ t2, res = .inr t2 → Q (some (.int t2.1)) t2.2) → PF6_easy l Q 48 [(0, .ref 0), (1, .int v1), (2, .int s.1), (3, .int s.2.1)] [] s.2.2 :=
    fun s res hb hi ho => F6_easy_48b_ok l  v1 s.1 s.2.1 s.2.2 hb ⟨hi, ho⟩
  have h9 : PF6_easy l Q 48 [(0, .ref 0), (1, .int v1), (2, .int v2), (3, .int v3)] [] q := sx_lp (body := fun s => F6_easy_48b  v1 s.1 s.2.1 s.2.2) (P := fun s => PF6_easy l Q 48 [(0, .ref 0), (1, .int v1), (2, .int s.1), (3, .int s.2.1)] [] s.2.2) (T := fun t => Q (some (.int t.1)) t.2) st FU (v2, v3, q) t h hk9
  exact h9
def F6_easy_38  (v1 : Int32) (v2 : Int32) (q : SQ) : Option ((Int32 × Int32 × SQ) ⊕ (Int32 × SQ)) :=
  sx_let (v2 + (1 : Int32)) (fun x9 => some (.inl (v1, x9, q)))
set_option maxHeartbeats 400000 in
theorem F6_easy_38_ok (l : Launch)  {Q : Option Value → SQ → Prop} (v1 : Int32) (v2 : Int32) (q : SQ) {res : (Int32 × Int32 × SQ) ⊕ (Int32 × SQ)} (h : F6_easy_38  v1 v2 q = some res) (hk9 : (∀ a10, res = .inl a10 → PF6_easy l Q 4 [(0, .ref 0), (1, .int a10.1), (2, .int a10.2.1)] [] a10.2.2) ∧ (∀ b11, res = .inr b11 → Q (some (.int b11.1)) b11.2)) : PF6_easy l Q 38 [(0, .ref 0), (1, .int v1), (2, .int v2)] [] q := by
  unfold F6_easy_38 at h
  obtain ⟨x9, ex9, h⟩ := sx_lt h
  refine sx_iinc (k9 := 2) (v := x9) (ls2 := [(2, .int x9), (0, .ref 0), (1, .int v1)]) dX6_easy_38 rfl (by rw [ex9, sx_ofI1]) (by decide) rfl ?_
  refine sx_goto (tgt := 4) dX6_easy_41 (by decide) ?_
  refine sx_locs [1, 2, 0] rfl ?_
  exact hk9.1 (v1, x9, q) (Option.some.inj h).symm
def F6_easy_4b  (v1 : Int32) (v2 : Int32) (q : SQ) : Option ((Int32 × Int32 × SQ) ⊕ (Int32 × SQ)) :=
  (if gI q 1 1 ≤ v2 then (F6_easy_48  v1 (0 : Int32) (0 : Int32) q).map .inr else (if sx_ix v2 4 = true then (if sx_ix v1 4 = true then (if gI q 5 v1.toNatClampNeg ≤ gI q 5 v2.toNatClampNeg then F6_easy_38  v1 v2 q else F6_easy_38  v2 v2 q) else none) else none))
set_option maxHeartbeats 400000 in
theorem F6_easy_4b_ok (l : Launch)  {Q : Option Value → SQ → Prop} (v1 : Int32) (v2 : Int32) (q : SQ) {res : (Int32 × Int32 × SQ) ⊕ (Int32 × SQ)} (h : F6_easy_4b  v1 v2 q = some res) (hk9 : (∀ a12, res = .inl a12 → PF6_easy l Q 4 [(0, .ref 0), (1, .int a12.1), (2, .int a12.2.1)] [] a12.2.2) ∧ (∀ b13, res = .inr b13 → Q (some (.int b13.1)) b13.2)) : PF6_easy l Q 4 [(0, .ref 0), (1, .int v1), (2, .int v2)] [] q := by
  unfold F6_easy_4b at h
  refine sx_iload_n dX6_easy_4 rfl rfl ?_
  refine sx_aload_n dX6_easy_5 rfl rfl ?_
  refine sx_getR dX6_easy_6 (hs := shX_0) (k9 := 0) (hf := rfl) cb_X6 ⟨by decide, rfl, gw_292⟩ ?_
  refine sx_getI dX6_easy_9 (hs := shX_1) (k9 := 1) (hf := rfl) cb_X4 ⟨by decide, rfl, gw_95⟩ ?_
  refine sx_icmp_ge (tgt := 44) dX6_easy_12 (by decide) (fun c9 => ?_) (fun c9 => ?_)
  · replace h := sx_ip h c9
    refine sx_iconst (v := (0 : Int32)) dX6_easy_44 (by decide) ?_
    refine sx_istore_n (ls2 := [(2, .int (0 : Int32)), (0, .ref 0), (1, .int v1)]) dX6_easy_45 rfl (by decide) rfl ?_
    refine sx_iconst (v := (0 : Int32)) dX6_easy_46 (by decide) ?_
    refine sx_istore_n (ls2 := [(3, .int (0 : Int32)), (2, .int (0 : Int32)), (0, .ref 0), (1, .int v1)]) dX6_easy_47 rfl (by decide) rfl ?_
    obtain ⟨t9, h, hr9⟩ := sx_mp h
    have hk9 := hk9.2 _ hr9
    refine sx_locs [2, 3, 1, 0] rfl ?_
    exact F6_easy_48_ok l  v1 (0 : Int32) (0 : Int32) q h hk9
  · replace h := sx_in h c9
    refine sx_aload_n dX6_easy_15 rfl rfl ?_
    refine sx_getR dX6_easy_16 (hs := shX_0) (k9 := 0) (hf := rfl) cb_X6 ⟨by decide, rfl, gw_292⟩ ?_
    refine sx_getR dX6_easy_19 (hs := shX_1) (k9 := 5) (hf := rfl) cb_X4 ⟨by decide, rfl, gw_105⟩ ?_
    refine sx_iload_n dX6_easy_22 rfl rfl ?_
    obtain ⟨g9, h⟩ := sx_gd h
    refine sx_iald dX6_easy_23 shX_5 (fun _ _ => rfl) (sx_ix_in g9) ?_
    refine sx_aload_n dX6_easy_24 rfl rfl ?_
    refine sx_getR dX6_easy_25 (hs := shX_0) (k9 := 0) (hf := rfl) cb_X6 ⟨by decide, rfl, gw_292⟩ ?_
    refine sx_getR dX6_easy_28 (hs := shX_1) (k9 := 5) (hf := rfl) cb_X4 ⟨by decide, rfl, gw_105⟩ ?_
    refine sx_iload_n dX6_easy_31 rfl rfl ?_
    obtain ⟨g9, h⟩ := sx_gd h
    refine sx_iald dX6_easy_32 shX_5 (fun _ _ => rfl) (sx_ix_in g9) ?_
    refine sx_icmp_ge (tgt := 38) dX6_easy_33 (by decide) (fun c9 => ?_) (fun c9 => ?_)
    · replace h := sx_ip h c9
      exact F6_easy_38_ok l  v1 v2 q h hk9
    · replace h := sx_in h c9
      refine sx_iload_n dX6_easy_36 rfl rfl ?_
      refine sx_istore_n (ls2 := [(1, .int v2), (0, .ref 0), (2, .int v2)]) dX6_easy_37 rfl (by decide) rfl ?_
      refine sx_locs [1, 0, 2] rfl ?_
      exact F6_easy_38_ok l  v2 v2 q h hk9
def F6_easy_4  (v1 : Int32) (v2 : Int32) (q : SQ) : Option (Int32 × SQ) := sx_loop (fun s14 => F6_easy_4b  s14.1 s14.2.1 s14.2.2) FU (v1, v2, q)
set_option maxHeartbeats 400000 in
theorem F6_easy_4_ok (l : Launch)  {Q : Option Value → SQ → Prop} (v1 : Int32) (v2 : Int32) (q : SQ) {t : Int32 × SQ} (h : F6_easy_4  v1 v2 q = some t) (hk9 : Q (some (.int t.1)) t.2) : PF6_easy l Q 4 [(0, .ref 0), (1, .int v1), (2, .int v2)] [] q := by
  unfold F6_easy_4 at h
  have st : ∀ (s : Int32 × Int32 × SQ) (res : (Int32 × Int32 × SQ) ⊕ (Int32 × SQ)), F6_easy_4b  s.1 s.2.1 s.2.2 = some res → (∀ s2, res = .inl s2 → PF6_easy l Q 4 [(0, .ref 0), (1, .int s2.1), (2, .int s2.2.1)] [] s2.2.2) → (∀ t2, res = .inr t2 → Q (some (.int t2.1)) t2.2) → PF6_easy l Q 4 [(0, .ref 0), (1, .int s.1), (2, .int s.2.1)] [] s.2.2 :=
    fun s res hb hi ho => F6_easy_4b_ok l  s.1 s.2.1 s.2.2 hb ⟨hi, ho⟩
  have h9 : PF6_easy l Q 4 [(0, .ref 0), (1, .int v1), (2, .int v2)] [] q := sx_lp (body := fun s => F6_easy_4b  s.1 s.2.1 s.2.2) (P := fun s => PF6_easy l Q 4 [(0, .ref 0), (1, .int s.1), (2, .int s.2.1)] [] s.2.2) (T := fun t => Q (some (.int t.1)) t.2) st FU (v1, v2, q) t h hk9
  exact h9
def F6_easy   (q : SQ) : Option (Int32 × SQ) :=
  F6_easy_4  (0 : Int32) (1 : Int32) q
set_option maxHeartbeats 400000 in
theorem F6_easy_ok (l : Launch)  {Q : Option Value → SQ → Prop}  (q : SQ) {res : Int32 × SQ} (h : F6_easy   q = some res) (hk9 : Q (some (.int res.1)) res.2) : PF6_easy l Q 0 [(0, .ref 0)] [] q := by
  unfold F6_easy at h
  refine sx_iconst (v := (0 : Int32)) dX6_easy_0 (by decide) ?_
  refine sx_istore_n (ls2 := [(1, .int (0 : Int32)), (0, .ref 0)]) dX6_easy_1 rfl (by decide) rfl ?_
  refine sx_iconst (v := (1 : Int32)) dX6_easy_2 (by decide) ?_
  refine sx_istore_n (ls2 := [(2, .int (1 : Int32)), (1, .int (0 : Int32)), (0, .ref 0)]) dX6_easy_3 rfl (by decide) rfl ?_
  refine sx_locs [2, 1, 0] rfl ?_
  exact F6_easy_4_ok l  (0 : Int32) (1 : Int32) q h hk9
theorem F6_easy_ck (l : Launch)   (q : SQ) {r : Int32 × SQ} (h : F6_easy   q = some r) : CK shX vwCl KX tfX l yX6_easy cX6_easy 4 ((some .int)) 4 96 [.ref 0] q (some (.int r.1)) r.2 :=
  CK.of mi_X6_easy (Nat.le_of_ble_eq_true rfl) (F6_easy_ok l   q h ⟨rfl, rfl⟩)
theorem mi_X6_stays : sx_MI yX6_stays cX6_stays 4 ((some .int)) 2 := ⟨by decide, ⟨by decide, by decide, by decide +kernel⟩, gw_636, gw_60⟩
abbrev PF6_stays (l : Launch) (Q : Option Value → SQ → Prop) : Nat → List (Nat × Value) → List Value → SQ → Prop := XX shX vwCl KX tfX l RX6 cX6_stays 4 ((some .int)) { frames := 4, cells := 0, slots := 0, locals := 96 } Q
def F6_stays_16   (q : SQ) : Option (Int32 × SQ) :=
  some ((-1 : Int32), q)
set_option maxHeartbeats 400000 in
theorem F6_stays_16_ok (l : Launch)  {Q : Option Value → SQ → Prop}  (q : SQ) {res : Int32 × SQ} (h : F6_stays_16   q = some res) (hk9 : Q (some (.int res.1)) res.2) : PF6_stays l Q 16 [] [] q := by
  unfold F6_stays_16 at h
  refine sx_iconst (v := (-1 : Int32)) dX6_stays_16 (by decide) ?_
  obtain rfl := Option.some.inj h
  exact sx_iret dX6_stays_17 rfl hk9
def F6_stays_49b  (v1 : Int32) (v2 : Int32) (v3 : Int32) (q : SQ) : Option ((Int32 × SQ) ⊕ (Int32 × SQ)) :=
  (if (9 : Int32) < v3 then some (.inr ((-9 : Int32), q)) else (if sx_ix v2 4 = true then sx_let (sI q 47 v2.toNatClampNeg v3) (fun q5 => (F0_choiceOf 48 41 v1 (gI q5 23 0) q5).bind (fun z6 => (if z6.1 = v2 then some (.inr (v3, z6.2)) else sx_let (v3 + (1 : Int32)) (fun x7 => some (.inl (x7, z6.2)))))) else none))
set_option maxHeartbeats 400000 in
theorem F6_stays_49b_ok (l : Launch)  {Q : Option Value → SQ → Prop} (v1 : Int32) (v2 : Int32) (v3 : Int32) (q : SQ) {res : (Int32 × SQ) ⊕ (Int32 × SQ)} (h : F6_stays_49b  v1 v2 v3 q = some res) (hk9 : (∀ a8, res = .inl a8 → PF6_stays l Q 49 [(0, .ref 0), (1, .int v1), (2, .int v2), (3, .int a8.1)] [] a8.2) ∧ (∀ b9, res = .inr b9 → Q (some (.int b9.1)) b9.2)) : PF6_stays l Q 49 [(0, .ref 0), (1, .int v1), (2, .int v2), (3, .int v3)] [] q := by
  unfold F6_stays_49b at h
  refine sx_iload_n dX6_stays_49 rfl rfl ?_
  refine sx_bipush (v := (9 : Int32)) dX6_stays_50 (by decide) ?_
  refine sx_icmp_gt (tgt := 95) dX6_stays_52 (by decide) (fun c9 => ?_) (fun c9 => ?_)
  · replace h := sx_ip h c9
    refine sx_bipush (v := (-9 : Int32)) dX6_stays_95 (by decide) ?_
    have hk9 := hk9.2 _ (Option.some.inj h).symm
    exact sx_iret dX6_stays_97 rfl hk9
  · replace h := sx_in h c9
    refine sx_aload_n dX6_stays_55 rfl rfl ?_
    refine sx_getR dX6_stays_56 (hs := shX_0) (k9 := 8) (hf := rfl) cb_X6 ⟨by decide, rfl, gw_300⟩ ?_
    refine sx_getR dX6_stays_59 (hs := shX_41) (k9 := 7) (hf := rfl) cb_X4 ⟨by decide, rfl, gw_110⟩ ?_
    refine sx_iload_n dX6_stays_62 rfl rfl ?_
    refine sx_iload_n dX6_stays_63 rfl rfl ?_
    obtain ⟨g9, h⟩ := sx_gd h
    obtain ⟨q5, eq5, h⟩ := sx_lt h
    refine sx_iast dX6_stays_64 shX_47 (fun _ _ => rfl) (sx_ix_in g9) ?_
    refine sx_nmQ eq5 ?_
    refine sx_aload_n dX6_stays_65 rfl rfl ?_
    refine sx_getR dX6_stays_66 (hs := shX_0) (k9 := 9) (hf := rfl) cb_X6 ⟨by decide, rfl, gw_301⟩ ?_
    refine sx_aload_n dX6_stays_69 rfl rfl ?_
    refine sx_getR dX6_stays_70 (hs := shX_0) (k9 := 8) (hf := rfl) cb_X6 ⟨by decide, rfl, gw_300⟩ ?_
    refine sx_iload_n dX6_stays_73 rfl rfl ?_
    refine sx_aload_n dX6_stays_74 rfl rfl ?_
    refine sx_getR dX6_stays_75 (hs := shX_0) (k9 := 3) (hf := rfl) cb_X6 ⟨by decide, rfl, gw_295⟩ ?_
    refine sx_iconst (v := (0 : Int32)) dX6_stays_78 (by decide) ?_
    refine sx_ialdC (j9 := 0) dX6_stays_79 shX_23 (fun _ _ => rfl) (by decide) (by decide) ?_
    obtain ⟨z6, hz6, h⟩ := sx_bd h
    refine sx_callV (o := 48) (As := [.ref 41, .int v1, .int (gI q5 23 0)]) (rest := []) KSX (F0_choiceOf_ck l 48 iCo_48 41 iSh_41 v1 (gI q5 23 0) q5 hz6) mi_X0_choiceOf gw_550 rfl ⟨gw_551, gw_552⟩ shX_48 rfl rfl ⟨Nat.le_of_ble_eq_true rfl, Nat.le_of_ble_eq_true rfl⟩ (Nat.le_of_ble_eq_true rfl) dX6_stays_80 rfl ?_
    refine sx_iload_n dX6_stays_83 rfl rfl ?_
    refine sx_icmp_ne (tgt := 89) dX6_stays_84 (by decide) (fun c9 => ?_) (fun c9 => ?_)
    · replace h := sx_in h c9
      obtain ⟨x7, ex7, h⟩ := sx_lt h
      refine sx_iinc (k9 := 3) (v := x7) (ls2 := [(3, .int x7), (0, .ref 0), (1, .int v1), (2, .int v2)]) dX6_stays_89 rfl (by rw [ex7, sx_ofI1]) (by decide) rfl ?_
      refine sx_goto (tgt := 49) dX6_stays_92 (by decide) ?_
      refine sx_locs [1, 2, 3, 0] rfl ?_
      exact hk9.1 (x7, z6.2) (Option.some.inj h).symm
    · replace h := sx_ip h c9
      refine sx_iload_n dX6_stays_87 rfl rfl ?_
      have hk9 := hk9.2 _ (Option.some.inj h).symm
      exact sx_iret dX6_stays_88 rfl hk9
def F6_stays_49  (v1 : Int32) (v2 : Int32) (v3 : Int32) (q : SQ) : Option (Int32 × SQ) := sx_loop (fun s10 => F6_stays_49b  v1 v2 s10.1 s10.2) FU (v3, q)
set_option maxHeartbeats 400000 in
theorem F6_stays_49_ok (l : Launch)  {Q : Option Value → SQ → Prop} (v1 : Int32) (v2 : Int32) (v3 : Int32) (q : SQ) {t : Int32 × SQ} (h : F6_stays_49  v1 v2 v3 q = some t) (hk9 : Q (some (.int t.1)) t.2) : PF6_stays l Q 49 [(0, .ref 0), (1, .int v1), (2, .int v2), (3, .int v3)] [] q := by
  unfold F6_stays_49 at h
  have st : ∀ (s : Int32 × SQ) (res : (Int32 × SQ) ⊕ (Int32 × SQ)), F6_stays_49b  v1 v2 s.1 s.2 = some res → (∀ s2, res = .inl s2 → PF6_stays l Q 49 [(0, .ref 0), (1, .int v1), (2, .int v2), (3, .int s2.1)] [] s2.2) → (∀ t2, res = .inr t2 → Q (some (.int t2.1)) t2.2) → PF6_stays l Q 49 [(0, .ref 0), (1, .int v1), (2, .int v2), (3, .int s.1)] [] s.2 :=
    fun s res hb hi ho => F6_stays_49b_ok l  v1 v2 s.1 s.2 hb ⟨hi, ho⟩
  have h9 : PF6_stays l Q 49 [(0, .ref 0), (1, .int v1), (2, .int v2), (3, .int v3)] [] q := sx_lp (body := fun s => F6_stays_49b  v1 v2 s.1 s.2) (P := fun s => PF6_stays l Q 49 [(0, .ref 0), (1, .int v1), (2, .int v2), (3, .int s.1)] [] s.2) (T := fun t => Q (some (.int t.1)) t.2) st FU (v3, q) t h hk9
  exact h9
def F6_stays  (v1 : Int32) (v2 : Int32) (q : SQ) : Option (Int32 × SQ) :=
  (F6_isChild  v1 q).bind (fun z1 => (if z1.1 = 0 then F6_stays_16   z1.2 else (F6_isSort  v2 z1.2).bind (fun z2 => (if z2.1 = 0 then F6_stays_16   z2.2 else (F4_copyOf 41 1  z2.2).bind (fun z3 => (F0_begin 48 41 (gI z3.2 41 8) z3.2).bind (fun z4 => F6_stays_49  v1 v2 (0 : Int32) z4.2))))))
set_option maxHeartbeats 400000 in
theorem F6_stays_ok (l : Launch)  {Q : Option Value → SQ → Prop} (v1 : Int32) (v2 : Int32) (q : SQ) {res : Int32 × SQ} (h : F6_stays  v1 v2 q = some res) (hk9 : Q (some (.int res.1)) res.2) : PF6_stays l Q 0 [(0, .ref 0), (1, .int v1), (2, .int v2)] [] q := by
  unfold F6_stays at h
  refine sx_aload_n dX6_stays_0 rfl rfl ?_
  refine sx_iload_n dX6_stays_1 rfl rfl ?_
  obtain ⟨z1, hz1, h⟩ := sx_bd h
  refine sx_callV (o := 0) (As := [.int v1]) (rest := []) KSX (F6_isChild_ck l  v1 q hz1) mi_X6_isChild gw_489 rfl ⟨gw_491, gw_13⟩ shX_0 rfl rfl ⟨Nat.le_of_ble_eq_true rfl, Nat.le_of_ble_eq_true rfl⟩ (Nat.le_of_ble_eq_true rfl) dX6_stays_2 rfl ?_
  refine sx_if_eq (tgt := 16) dX6_stays_5 (by decide) (fun c9 => ?_) (fun c9 => ?_)
  · replace h := sx_ip h c9
    refine sx_locs [] rfl ?_
    exact F6_stays_16_ok l   z1.2 h hk9
  · replace h := sx_in h c9
    refine sx_aload_n dX6_stays_8 rfl rfl ?_
    refine sx_iload_n dX6_stays_9 rfl rfl ?_
    obtain ⟨z2, hz2, h⟩ := sx_bd h
    refine sx_callV (o := 0) (As := [.int v2]) (rest := []) KSX (F6_isSort_ck l  v2 z1.2 hz2) mi_X6_isSort gw_497 rfl ⟨gw_499, gw_14⟩ shX_0 rfl rfl ⟨Nat.le_of_ble_eq_true rfl, Nat.le_of_ble_eq_true rfl⟩ (Nat.le_of_ble_eq_true rfl) dX6_stays_10 rfl ?_
    refine sx_if_ne (tgt := 18) dX6_stays_13 (by decide) (fun c9 => ?_) (fun c9 => ?_)
    · replace h := sx_in h c9
      refine sx_aload_n dX6_stays_18 rfl rfl ?_
      refine sx_getR dX6_stays_19 (hs := shX_0) (k9 := 8) (hf := rfl) cb_X6 ⟨by decide, rfl, gw_300⟩ ?_
      refine sx_aload_n dX6_stays_22 rfl rfl ?_
      refine sx_getR dX6_stays_23 (hs := shX_0) (k9 := 0) (hf := rfl) cb_X6 ⟨by decide, rfl, gw_292⟩ ?_
      obtain ⟨z3, hz3, h⟩ := sx_bd h
      refine sx_callV (o := 41) (As := [.ref 1]) (rest := []) KSX (F4_copyOf_ck l 41 iSh_41 1 iSh_1  z2.2 hz3) mi_X4_copyOf gw_479 rfl ⟨gw_480, gw_481⟩ shX_41 rfl rfl ⟨Nat.le_of_ble_eq_true rfl, Nat.le_of_ble_eq_true rfl⟩ (Nat.le_of_ble_eq_true rfl) dX6_stays_26 rfl ?_
      refine sx_aload_n dX6_stays_29 rfl rfl ?_
      refine sx_getR dX6_stays_30 (hs := shX_0) (k9 := 9) (hf := rfl) cb_X6 ⟨by decide, rfl, gw_301⟩ ?_
      refine sx_aload_n dX6_stays_33 rfl rfl ?_
      refine sx_getR dX6_stays_34 (hs := shX_0) (k9 := 8) (hf := rfl) cb_X6 ⟨by decide, rfl, gw_300⟩ ?_
      refine sx_aload_n dX6_stays_37 rfl rfl ?_
      refine sx_getR dX6_stays_38 (hs := shX_0) (k9 := 8) (hf := rfl) cb_X6 ⟨by decide, rfl, gw_300⟩ ?_
      refine sx_getI dX6_stays_41 (hs := shX_41) (k9 := 8) (hf := rfl) cb_X4 ⟨by decide, rfl, gw_113⟩ ?_
      obtain ⟨z4, hz4, h⟩ := sx_bd h
      refine sx_callV (o := 48) (As := [.ref 41, .int (gI z3.2 41 8)]) (rest := []) KSX (F0_begin_ck l 48 iCo_48 41 iSh_41 (gI z3.2 41 8) z3.2 hz4) mi_X0_begin gw_288 rfl ⟨gw_289, gw_290⟩ shX_48 rfl rfl ⟨Nat.le_of_ble_eq_true rfl, Nat.le_of_ble_eq_true rfl⟩ (Nat.le_of_ble_eq_true rfl) dX6_stays_44 rfl ?_
      refine sx_iconst (v := (0 : Int32)) dX6_stays_47 (by decide) ?_
      refine sx_istore_n (ls2 := [(3, .int (0 : Int32)), (0, .ref 0), (1, .int v1), (2, .int v2)]) dX6_stays_48 rfl (by decide) rfl ?_
      refine sx_locs [1, 2, 3, 0] rfl ?_
      exact F6_stays_49_ok l  v1 v2 (0 : Int32) z4.2 h hk9
    · replace h := sx_ip h c9
      refine sx_locs [] rfl ?_
      exact F6_stays_16_ok l   z2.2 h hk9
theorem F6_stays_ck (l : Launch)  (v1 : Int32) (v2 : Int32) (q : SQ) {r : Int32 × SQ} (h : F6_stays  v1 v2 q = some r) : CK shX vwCl KX tfX l yX6_stays cX6_stays 4 ((some .int)) 4 96 [.ref 0, .int v1, .int v2] q (some (.int r.1)) r.2 :=
  CK.of mi_X6_stays (Nat.le_of_ble_eq_true rfl) (F6_stays_ok l  v1 v2 q h ⟨rfl, rfl⟩)
theorem mi_X6_fillJar : sx_MI yX6_fillJar cX6_fillJar 5 (none) 2 := ⟨by decide, ⟨by decide, by decide, by decide +kernel⟩, gw_644, gw_60⟩
abbrev PF6_fillJar (l : Launch) (Q : Option Value → SQ → Prop) : Nat → List (Nat × Value) → List Value → SQ → Prop := XX shX vwCl KX tfX l RX6 cX6_fillJar 5 (none) { frames := 4, cells := 0, slots := 0, locals := 96 } Q
def F6_fillJar_42b  (v2 : Int32) (v3 : Int32) (q : SQ) : Option ((Int32 × SQ) ⊕ (Unit × SQ)) :=
  (if gI q 41 0 ≤ v3 then some (.inr ((), q)) else (F0_choiceOf 19 41 v3 (gI q 23 0) q).bind (fun z5 => sx_let (if z5.1 < (0 : Int32) then (0 : Int32) else z5.1) (fun x6 => (F4_pagesIn 41 v3 x6 z5.2).bind (fun z7 => (if sx_ix v3 8 = true then sx_let (sI z7.2 38 v3.toNatClampNeg z7.1) (fun q8 => (F0_joysOf 19 41 v3 x6 q8).bind (fun z9 => (if sx_ix v3 8 = true then sx_let (sI z9.2 39 v3.toNatClampNeg (z9.1 - (gI z9.2 23 0))) (fun q10 => (if sx_ix v3 8 = true then (if sx_ix v3 8 = true then sx_let (sI q10 40 v3.toNatClampNeg (((v2 * (gI q10 44 v3.toNatClampNeg)) * (gI q10 19 1)) / (100 : Int32))) (fun q11 => sx_let (v3 + (1 : Int32)) (fun x12 => some (.inl (x12, q11)))) else none) else none)) else none))) else none)))))
set_option maxHeartbeats 400000 in
theorem F6_fillJar_42b_ok (l : Launch)  {Q : Option Value → SQ → Prop} (v2 : Int32) (v3 : Int32) (q : SQ) {res : (Int32 × SQ) ⊕ (Unit × SQ)} (h : F6_fillJar_42b  v2 v3 q = some res) (hk9 : (∀ a13, res = .inl a13 → PF6_fillJar l Q 42 [(0, .ref 0), (2, .int v2), (3, .int a13.1)] [] a13.2) ∧ (∀ b14, res = .inr b14 → Q none b14.2)) : PF6_fillJar l Q 42 [(0, .ref 0), (2, .int v2), (3, .int v3)] [] q := by
  unfold F6_fillJar_42b at h
  refine sx_iload_n dX6_fillJar_42 rfl rfl ?_
  refine sx_aload_n dX6_fillJar_43 rfl rfl ?_
  refine sx_getR dX6_fillJar_44 (hs := shX_0) (k9 := 8) (hf := rfl) cb_X6 ⟨by decide, rfl, gw_300⟩ ?_
  refine sx_getI dX6_fillJar_47 (hs := shX_41) (k9 := 0) (hf := rfl) cb_X4 ⟨by decide, rfl, gw_90⟩ ?_
  refine sx_icmp_ge (tgt := 163) dX6_fillJar_50 (by decide) (fun c9 => ?_) (fun c9 => ?_)
  · replace h := sx_ip h c9
    have hk9 := hk9.2 _ (Option.some.inj h).symm
    exact sx_vret dX6_fillJar_163 rfl hk9
  · replace h := sx_in h c9
    refine sx_aload_n dX6_fillJar_53 rfl rfl ?_
    refine sx_getR dX6_fillJar_54 (hs := shX_0) (k9 := 2) (hf := rfl) cb_X6 ⟨by decide, rfl, gw_294⟩ ?_
    refine sx_aload_n dX6_fillJar_57 rfl rfl ?_
    refine sx_getR dX6_fillJar_58 (hs := shX_0) (k9 := 8) (hf := rfl) cb_X6 ⟨by decide, rfl, gw_300⟩ ?_
    refine sx_iload_n dX6_fillJar_61 rfl rfl ?_
    refine sx_aload_n dX6_fillJar_62 rfl rfl ?_
    refine sx_getR dX6_fillJar_63 (hs := shX_0) (k9 := 3) (hf := rfl) cb_X6 ⟨by decide, rfl, gw_295⟩ ?_
    refine sx_iconst (v := (0 : Int32)) dX6_fillJar_66 (by decide) ?_
    refine sx_ialdC (j9 := 0) dX6_fillJar_67 shX_23 (fun _ _ => rfl) (by decide) (by decide) ?_
    obtain ⟨z5, hz5, h⟩ := sx_bd h
    refine sx_callV (o := 19) (As := [.ref 41, .int v3, .int (gI q 23 0)]) (rest := []) KSX (F0_choiceOf_ck l 19 iCo_19 41 iSh_41 v3 (gI q 23 0) q hz5) mi_X0_choiceOf gw_550 rfl ⟨gw_551, gw_552⟩ shX_19 rfl rfl ⟨Nat.le_of_ble_eq_true rfl, Nat.le_of_ble_eq_true rfl⟩ (Nat.le_of_ble_eq_true rfl) dX6_fillJar_68 rfl ?_
    refine sx_iconst (v := (0 : Int32)) dX6_fillJar_71 (by decide) ?_
    refine sx_mmax dX6_fillJar_72 gw_645 gw_mmax (by decide) (Nat.le_of_ble_eq_true rfl) ?_
    obtain ⟨x6, ex6, h⟩ := sx_lt h
    refine sx_nmI ex6 ?_
    refine sx_istore (ls2 := [(4, .int x6), (0, .ref 0), (2, .int v2), (3, .int v3)]) dX6_fillJar_75 (by decide) rfl ?_
    refine sx_aload_n dX6_fillJar_77 rfl rfl ?_
    refine sx_getR dX6_fillJar_78 (hs := shX_0) (k9 := 7) (hf := rfl) cb_X6 ⟨by decide, rfl, gw_299⟩ ?_
    refine sx_getR dX6_fillJar_81 (hs := shX_37) (k9 := 2) (hf := rfl) cb_X2 ⟨by decide, rfl, gw_255⟩ ?_
    refine sx_iload_n dX6_fillJar_84 rfl rfl ?_
    refine sx_aload_n dX6_fillJar_85 rfl rfl ?_
    refine sx_getR dX6_fillJar_86 (hs := shX_0) (k9 := 8) (hf := rfl) cb_X6 ⟨by decide, rfl, gw_300⟩ ?_
    refine sx_iload_n dX6_fillJar_89 rfl rfl ?_
    refine sx_iload dX6_fillJar_90 rfl ?_
    obtain ⟨z7, hz7, h⟩ := sx_bd h
    refine sx_callV (o := 41) (As := [.int v3, .int x6]) (rest := [.int v3, .ref 38]) KSX (F4_pagesIn_ck l 41 iSh_41 v3 x6 z5.2 hz7) mi_X4_pagesIn gw_526 rfl ⟨gw_527, gw_528⟩ shX_41 rfl rfl ⟨Nat.le_of_ble_eq_true rfl, Nat.le_of_ble_eq_true rfl⟩ (Nat.le_of_ble_eq_true rfl) dX6_fillJar_92 rfl ?_
    obtain ⟨g9, h⟩ := sx_gd h
    obtain ⟨q8, eq8, h⟩ := sx_lt h
    refine sx_iast dX6_fillJar_95 shX_38 (fun _ _ => rfl) (sx_ix_in g9) ?_
    refine sx_nmQ eq8 ?_
    refine sx_aload_n dX6_fillJar_96 rfl rfl ?_
    refine sx_getR dX6_fillJar_97 (hs := shX_0) (k9 := 7) (hf := rfl) cb_X6 ⟨by decide, rfl, gw_299⟩ ?_
    refine sx_getR dX6_fillJar_100 (hs := shX_37) (k9 := 3) (hf := rfl) cb_X2 ⟨by decide, rfl, gw_257⟩ ?_
    refine sx_iload_n dX6_fillJar_103 rfl rfl ?_
    refine sx_aload_n dX6_fillJar_104 rfl rfl ?_
    refine sx_getR dX6_fillJar_105 (hs := shX_0) (k9 := 2) (hf := rfl) cb_X6 ⟨by decide, rfl, gw_294⟩ ?_
    refine sx_aload_n dX6_fillJar_108 rfl rfl ?_
    refine sx_getR dX6_fillJar_109 (hs := shX_0) (k9 := 8) (hf := rfl) cb_X6 ⟨by decide, rfl, gw_300⟩ ?_
    refine sx_iload_n dX6_fillJar_112 rfl rfl ?_
    refine sx_iload dX6_fillJar_113 rfl ?_
    obtain ⟨z9, hz9, h⟩ := sx_bd h
    refine sx_callV (o := 19) (As := [.ref 41, .int v3, .int x6]) (rest := [.int v3, .ref 39]) KSX (F0_joysOf_ck l 19 iCo_19 41 iSh_41 v3 x6 q8 hz9) mi_X0_joysOf gw_530 rfl ⟨gw_531, gw_532⟩ shX_19 rfl rfl ⟨Nat.le_of_ble_eq_true rfl, Nat.le_of_ble_eq_true rfl⟩ (Nat.le_of_ble_eq_true rfl) dX6_fillJar_115 rfl ?_
    refine sx_aload_n dX6_fillJar_118 rfl rfl ?_
    refine sx_getR dX6_fillJar_119 (hs := shX_0) (k9 := 3) (hf := rfl) cb_X6 ⟨by decide, rfl, gw_295⟩ ?_
    refine sx_iconst (v := (0 : Int32)) dX6_fillJar_122 (by decide) ?_
    refine sx_ialdC (j9 := 0) dX6_fillJar_123 shX_23 (fun _ _ => rfl) (by decide) (by decide) ?_
    refine sx_isub dX6_fillJar_124 ?_
    obtain ⟨g9, h⟩ := sx_gd h
    obtain ⟨q10, eq10, h⟩ := sx_lt h
    refine sx_iast dX6_fillJar_125 shX_39 (fun _ _ => rfl) (sx_ix_in g9) ?_
    refine sx_nmQ eq10 ?_
    refine sx_aload_n dX6_fillJar_126 rfl rfl ?_
    refine sx_getR dX6_fillJar_127 (hs := shX_0) (k9 := 7) (hf := rfl) cb_X6 ⟨by decide, rfl, gw_299⟩ ?_
    refine sx_getR dX6_fillJar_130 (hs := shX_37) (k9 := 4) (hf := rfl) cb_X2 ⟨by decide, rfl, gw_259⟩ ?_
    refine sx_iload_n dX6_fillJar_133 rfl rfl ?_
    refine sx_iload_n dX6_fillJar_134 rfl rfl ?_
    refine sx_aload_n dX6_fillJar_135 rfl rfl ?_
    refine sx_getR dX6_fillJar_136 (hs := shX_0) (k9 := 8) (hf := rfl) cb_X6 ⟨by decide, rfl, gw_300⟩ ?_
    refine sx_getR dX6_fillJar_139 (hs := shX_41) (k9 := 4) (hf := rfl) cb_X4 ⟨by decide, rfl, gw_102⟩ ?_
    refine sx_iload_n dX6_fillJar_142 rfl rfl ?_
    obtain ⟨g9, h⟩ := sx_gd h
    refine sx_iald dX6_fillJar_143 shX_44 (fun _ _ => rfl) (sx_ix_in g9) ?_
    refine sx_imul dX6_fillJar_144 ?_
    refine sx_aload_n dX6_fillJar_145 rfl rfl ?_
    refine sx_getR dX6_fillJar_146 (hs := shX_0) (k9 := 2) (hf := rfl) cb_X6 ⟨by decide, rfl, gw_294⟩ ?_
    refine sx_getI dX6_fillJar_149 (hs := shX_19) (k9 := 1) (hf := rfl) cb_X0 ⟨by decide, rfl, gw_188⟩ ?_
    refine sx_imul dX6_fillJar_152 ?_
    refine sx_bipush (v := (100 : Int32)) dX6_fillJar_153 (by decide) ?_
    refine sx_idiv dX6_fillJar_155 (by decide) ?_
    obtain ⟨g9, h⟩ := sx_gd h
    obtain ⟨q11, eq11, h⟩ := sx_lt h
    refine sx_iast dX6_fillJar_156 shX_40 (fun _ _ => rfl) (sx_ix_in g9) ?_
    refine sx_nmQ eq11 ?_
    obtain ⟨x12, ex12, h⟩ := sx_lt h
    refine sx_iinc (k9 := 3) (v := x12) (ls2 := [(3, .int x12), (4, .int x6), (0, .ref 0), (2, .int v2)]) dX6_fillJar_157 rfl (by rw [ex12, sx_ofI1]) (by decide) rfl ?_
    refine sx_goto (tgt := 42) dX6_fillJar_160 (by decide) ?_
    refine sx_locs [2, 3, 0] rfl ?_
    exact hk9.1 (x12, q11) (Option.some.inj h).symm
def F6_fillJar_42  (v2 : Int32) (v3 : Int32) (q : SQ) : Option (Unit × SQ) := sx_loop (fun s15 => F6_fillJar_42b  v2 s15.1 s15.2) FU (v3, q)
set_option maxHeartbeats 400000 in
theorem F6_fillJar_42_ok (l : Launch)  {Q : Option Value → SQ → Prop} (v2 : Int32) (v3 : Int32) (q : SQ) {t : Unit × SQ} (h : F6_fillJar_42  v2 v3 q = some t) (hk9 : Q none t.2) : PF6_fillJar l Q 42 [(0, .ref 0), (2, .int v2), (3, .int v3)] [] q := by
  unfold F6_fillJar_42 at h
  have st : ∀ (s : Int32 × SQ) (res : (Int32 × SQ) ⊕ (Unit × SQ)), F6_fillJar_42b  v2 s.1 s.2 = some res → (∀ s2, res = .inl s2 → PF6_fillJar l Q 42 [(0, .ref 0), (2, .int v2), (3, .int s2.1)] [] s2.2) → (∀ t2, res = .inr t2 → Q none t2.2) → PF6_fillJar l Q 42 [(0, .ref 0), (2, .int v2), (3, .int s.1)] [] s.2 :=
    fun s res hb hi ho => F6_fillJar_42b_ok l  v2 s.1 s.2 hb ⟨hi, ho⟩
  have h9 : PF6_fillJar l Q 42 [(0, .ref 0), (2, .int v2), (3, .int v3)] [] q := sx_lp (body := fun s => F6_fillJar_42b  v2 s.1 s.2) (P := fun s => PF6_fillJar l Q 42 [(0, .ref 0), (2, .int v2), (3, .int s.1)] [] s.2) (T := fun t => Q none t.2) st FU (v3, q) t h hk9
  exact h9
def F6_fillJar  (v1 : Int32) (v2 : Int32) (q : SQ) : Option (Unit × SQ) :=
  (F4_copyOf 41 1  q).bind (fun z1 => (F4_payNothing 41  z1.2).bind (fun z2 => sx_let (sI z2.2 37 0 v1) (fun q3 => sx_let (sI q3 37 1 (gI q3 41 0)) (fun q4 => F6_fillJar_42  v2 (0 : Int32) q4))))
set_option maxHeartbeats 400000 in
theorem F6_fillJar_ok (l : Launch)  {Q : Option Value → SQ → Prop} (v1 : Int32) (v2 : Int32) (q : SQ) {res : Unit × SQ} (h : F6_fillJar  v1 v2 q = some res) (hk9 : Q none res.2) : PF6_fillJar l Q 0 [(0, .ref 0), (1, .int v1), (2, .int v2)] [] q := by
  unfold F6_fillJar at h
  refine sx_aload_n dX6_fillJar_0 rfl rfl ?_
  refine sx_getR dX6_fillJar_1 (hs := shX_0) (k9 := 8) (hf := rfl) cb_X6 ⟨by decide, rfl, gw_300⟩ ?_
  refine sx_aload_n dX6_fillJar_4 rfl rfl ?_
  refine sx_getR dX6_fillJar_5 (hs := shX_0) (k9 := 0) (hf := rfl) cb_X6 ⟨by decide, rfl, gw_292⟩ ?_
  obtain ⟨z1, hz1, h⟩ := sx_bd h
  refine sx_callV (o := 41) (As := [.ref 1]) (rest := []) KSX (F4_copyOf_ck l 41 iSh_41 1 iSh_1  q hz1) mi_X4_copyOf gw_479 rfl ⟨gw_480, gw_481⟩ shX_41 rfl rfl ⟨Nat.le_of_ble_eq_true rfl, Nat.le_of_ble_eq_true rfl⟩ (Nat.le_of_ble_eq_true rfl) dX6_fillJar_8 rfl ?_
  refine sx_aload_n dX6_fillJar_11 rfl rfl ?_
  refine sx_getR dX6_fillJar_12 (hs := shX_0) (k9 := 8) (hf := rfl) cb_X6 ⟨by decide, rfl, gw_300⟩ ?_
  obtain ⟨z2, hz2, h⟩ := sx_bd h
  refine sx_callV (o := 41) (As := []) (rest := []) KSX (F4_payNothing_ck l 41 iSh_41  z1.2 hz2) mi_X4_payNothing gw_603 rfl ⟨gw_285, gw_286⟩ shX_41 rfl rfl ⟨Nat.le_of_ble_eq_true rfl, Nat.le_of_ble_eq_true rfl⟩ (Nat.le_of_ble_eq_true rfl) dX6_fillJar_15 rfl ?_
  refine sx_aload_n dX6_fillJar_18 rfl rfl ?_
  refine sx_getR dX6_fillJar_19 (hs := shX_0) (k9 := 7) (hf := rfl) cb_X6 ⟨by decide, rfl, gw_299⟩ ?_
  refine sx_iload_n dX6_fillJar_22 rfl rfl ?_
  obtain ⟨q3, eq3, h⟩ := sx_lt h
  refine sx_putI dX6_fillJar_23 (hs := shX_37) (k9 := 0) (hf := rfl) cb_X2 ⟨by decide, rfl, gw_251⟩ rfl (by decide) ?_
  refine sx_nmQ eq3 ?_
  refine sx_aload_n dX6_fillJar_26 rfl rfl ?_
  refine sx_getR dX6_fillJar_27 (hs := shX_0) (k9 := 7) (hf := rfl) cb_X6 ⟨by decide, rfl, gw_299⟩ ?_
  refine sx_aload_n dX6_fillJar_30 rfl rfl ?_
  refine sx_getR dX6_fillJar_31 (hs := shX_0) (k9 := 8) (hf := rfl) cb_X6 ⟨by decide, rfl, gw_300⟩ ?_
  refine sx_getI dX6_fillJar_34 (hs := shX_41) (k9 := 0) (hf := rfl) cb_X4 ⟨by decide, rfl, gw_90⟩ ?_
  obtain ⟨q4, eq4, h⟩ := sx_lt h
  refine sx_putI dX6_fillJar_37 (hs := shX_37) (k9 := 1) (hf := rfl) cb_X2 ⟨by decide, rfl, gw_253⟩ rfl (by decide) ?_
  refine sx_nmQ eq4 ?_
  refine sx_iconst (v := (0 : Int32)) dX6_fillJar_40 (by decide) ?_
  refine sx_istore_n (ls2 := [(3, .int (0 : Int32)), (0, .ref 0), (1, .int v1), (2, .int v2)]) dX6_fillJar_41 rfl (by decide) rfl ?_
  refine sx_locs [1, 3, 0] rfl ?_
  exact F6_fillJar_42_ok l  v2 (0 : Int32) q4 h hk9
theorem F6_fillJar_ck (l : Launch)  (v1 : Int32) (v2 : Int32) (q : SQ) {r : Unit × SQ} (h : F6_fillJar  v1 v2 q = some r) : CK shX vwCl KX tfX l yX6_fillJar cX6_fillJar 5 (none) 4 96 [.ref 0, .int v1, .int v2] q none r.2 :=
  CK.of mi_X6_fillJar (Nat.le_of_ble_eq_true rfl) (F6_fillJar_ok l  v1 v2 q h ⟨rfl, rfl⟩)
theorem mi_X2_pagesOf : sx_MI yX2_pagesOf cX2_pagesOf 4 ((some .int)) 1 := ⟨by decide, ⟨by decide, by decide, by decide +kernel⟩, gw_657, gw_66⟩
abbrev PF2_pagesOf (l : Launch) (Q : Option Value → SQ → Prop) : Nat → List (Nat × Value) → List Value → SQ → Prop := XX shX vwCl KX tfX l RX2 cX2_pagesOf 4 ((some .int)) { frames := 0, cells := 0, slots := 0, locals := 0 } Q
def F2_pagesOf_30  (v1 : Int32) (v2 : Int32) (v3 : Int32) (q : SQ) : Option ((Int32 × Int32 × SQ) ⊕ (Int32 × SQ)) :=
  sx_let (v3 + (1 : Int32)) (fun x1 => some (.inl (v2, x1, q)))
set_option maxHeartbeats 400000 in
theorem F2_pagesOf_30_ok (l : Launch)  {Q : Option Value → SQ → Prop} (v1 : Int32) (v2 : Int32) (v3 : Int32) (q : SQ) {res : (Int32 × Int32 × SQ) ⊕ (Int32 × SQ)} (h : F2_pagesOf_30  v1 v2 v3 q = some res) (hk9 : (∀ a2, res = .inl a2 → PF2_pagesOf l Q 4 [(0, .ref 37), (1, .int v1), (2, .int a2.1), (3, .int a2.2.1)] [] a2.2.2) ∧ (∀ b3, res = .inr b3 → Q (some (.int b3.1)) b3.2)) : PF2_pagesOf l Q 30 [(0, .ref 37), (1, .int v1), (2, .int v2), (3, .int v3)] [] q := by
  unfold F2_pagesOf_30 at h
  obtain ⟨x1, ex1, h⟩ := sx_lt h
  refine sx_iinc (k9 := 3) (v := x1) (ls2 := [(3, .int x1), (0, .ref 37), (1, .int v1), (2, .int v2)]) dX2_pagesOf_30 rfl (by rw [ex1, sx_ofI1]) (by decide) rfl ?_
  refine sx_goto (tgt := 4) dX2_pagesOf_33 (by decide) ?_
  refine sx_locs [1, 2, 3, 0] rfl ?_
  exact hk9.1 (v2, x1, q) (Option.some.inj h).symm
def F2_pagesOf_4b  (v1 : Int32) (v2 : Int32) (v3 : Int32) (q : SQ) : Option ((Int32 × Int32 × SQ) ⊕ (Int32 × SQ)) :=
  (if gI q 37 1 ≤ v3 then some (.inr (v2, q)) else (if (v1 >>> (v3 &&& 31)) &&& (1 : Int32) = (1 : Int32) then (if sx_ix v3 8 = true then sx_let (v2 + (gI q 38 v3.toNatClampNeg)) (fun x4 => F2_pagesOf_30  v1 x4 v3 q) else none) else F2_pagesOf_30  v1 v2 v3 q))
set_option maxHeartbeats 400000 in
theorem F2_pagesOf_4b_ok (l : Launch)  {Q : Option Value → SQ → Prop} (v1 : Int32) (v2 : Int32) (v3 : Int32) (q : SQ) {res : (Int32 × Int32 × SQ) ⊕ (Int32 × SQ)} (h : F2_pagesOf_4b  v1 v2 v3 q = some res) (hk9 : (∀ a5, res = .inl a5 → PF2_pagesOf l Q 4 [(0, .ref 37), (1, .int v1), (2, .int a5.1), (3, .int a5.2.1)] [] a5.2.2) ∧ (∀ b6, res = .inr b6 → Q (some (.int b6.1)) b6.2)) : PF2_pagesOf l Q 4 [(0, .ref 37), (1, .int v1), (2, .int v2), (3, .int v3)] [] q := by
  unfold F2_pagesOf_4b at h
  refine sx_iload_n dX2_pagesOf_4 rfl rfl ?_
  refine sx_aload_n dX2_pagesOf_5 rfl rfl ?_
  refine sx_getI dX2_pagesOf_6 (hs := shX_37) (k9 := 1) (hf := rfl) cb_X2 ⟨by decide, rfl, gw_252⟩ ?_
  refine sx_icmp_ge (tgt := 36) dX2_pagesOf_9 (by decide) (fun c9 => ?_) (fun c9 => ?_)
  · replace h := sx_ip h c9
    refine sx_iload_n dX2_pagesOf_36 rfl rfl ?_
    have hk9 := hk9.2 _ (Option.some.inj h).symm
    exact sx_iret dX2_pagesOf_37 rfl hk9
  · replace h := sx_in h c9
    refine sx_iload_n dX2_pagesOf_12 rfl rfl ?_
    refine sx_iload_n dX2_pagesOf_13 rfl rfl ?_
    refine sx_ishr dX2_pagesOf_14 ?_
    refine sx_iconst (v := (1 : Int32)) dX2_pagesOf_15 (by decide) ?_
    refine sx_iand dX2_pagesOf_16 ?_
    refine sx_iconst (v := (1 : Int32)) dX2_pagesOf_17 (by decide) ?_
    refine sx_icmp_ne (tgt := 30) dX2_pagesOf_18 (by decide) (fun c9 => ?_) (fun c9 => ?_)
    · replace h := sx_in h c9
      exact F2_pagesOf_30_ok l  v1 v2 v3 q h hk9
    · replace h := sx_ip h c9
      refine sx_iload_n dX2_pagesOf_21 rfl rfl ?_
      refine sx_aload_n dX2_pagesOf_22 rfl rfl ?_
      refine sx_getR dX2_pagesOf_23 (hs := shX_37) (k9 := 2) (hf := rfl) cb_X2 ⟨by decide, rfl, gw_254⟩ ?_
      refine sx_iload_n dX2_pagesOf_26 rfl rfl ?_
      obtain ⟨g9, h⟩ := sx_gd h
      refine sx_iald dX2_pagesOf_27 shX_38 (fun _ _ => rfl) (sx_ix_in g9) ?_
      refine sx_iadd dX2_pagesOf_28 ?_
      obtain ⟨x4, ex4, h⟩ := sx_lt h
      refine sx_nmI ex4 ?_
      refine sx_istore_n (ls2 := [(2, .int x4), (0, .ref 37), (1, .int v1), (3, .int v3)]) dX2_pagesOf_29 rfl (by decide) rfl ?_
      refine sx_locs [1, 2, 0, 3] rfl ?_
      exact F2_pagesOf_30_ok l  v1 x4 v3 q h hk9
def F2_pagesOf_4  (v1 : Int32) (v2 : Int32) (v3 : Int32) (q : SQ) : Option (Int32 × SQ) := sx_loop (fun s7 => F2_pagesOf_4b  v1 s7.1 s7.2.1 s7.2.2) FU (v2, v3, q)
set_option maxHeartbeats 400000 in
theorem F2_pagesOf_4_ok (l : Launch)  {Q : Option Value → SQ → Prop} (v1 : Int32) (v2 : Int32) (v3 : Int32) (q : SQ) {t : Int32 × SQ} (h : F2_pagesOf_4  v1 v2 v3 q = some t) (hk9 : Q (some (.int t.1)) t.2) : PF2_pagesOf l Q 4 [(0, .ref 37), (1, .int v1), (2, .int v2), (3, .int v3)] [] q := by
  unfold F2_pagesOf_4 at h
  have st : ∀ (s : Int32 × Int32 × SQ) (res : (Int32 × Int32 × SQ) ⊕ (Int32 × SQ)), F2_pagesOf_4b  v1 s.1 s.2.1 s.2.2 = some res → (∀ s2, res = .inl s2 → PF2_pagesOf l Q 4 [(0, .ref 37), (1, .int v1), (2, .int s2.1), (3, .int s2.2.1)] [] s2.2.2) → (∀ t2, res = .inr t2 → Q (some (.int t2.1)) t2.2) → PF2_pagesOf l Q 4 [(0, .ref 37), (1, .int v1), (2, .int s.1), (3, .int s.2.1)] [] s.2.2 :=
    fun s res hb hi ho => F2_pagesOf_4b_ok l  v1 s.1 s.2.1 s.2.2 hb ⟨hi, ho⟩
  have h9 : PF2_pagesOf l Q 4 [(0, .ref 37), (1, .int v1), (2, .int v2), (3, .int v3)] [] q := sx_lp (body := fun s => F2_pagesOf_4b  v1 s.1 s.2.1 s.2.2) (P := fun s => PF2_pagesOf l Q 4 [(0, .ref 37), (1, .int v1), (2, .int s.1), (3, .int s.2.1)] [] s.2.2) (T := fun t => Q (some (.int t.1)) t.2) st FU (v2, v3, q) t h hk9
  exact h9
def F2_pagesOf  (v1 : Int32) (q : SQ) : Option (Int32 × SQ) :=
  F2_pagesOf_4  v1 (0 : Int32) (0 : Int32) q
set_option maxHeartbeats 400000 in
theorem F2_pagesOf_ok (l : Launch)  {Q : Option Value → SQ → Prop} (v1 : Int32) (q : SQ) {res : Int32 × SQ} (h : F2_pagesOf  v1 q = some res) (hk9 : Q (some (.int res.1)) res.2) : PF2_pagesOf l Q 0 [(0, .ref 37), (1, .int v1)] [] q := by
  unfold F2_pagesOf at h
  refine sx_iconst (v := (0 : Int32)) dX2_pagesOf_0 (by decide) ?_
  refine sx_istore_n (ls2 := [(2, .int (0 : Int32)), (0, .ref 37), (1, .int v1)]) dX2_pagesOf_1 rfl (by decide) rfl ?_
  refine sx_iconst (v := (0 : Int32)) dX2_pagesOf_2 (by decide) ?_
  refine sx_istore_n (ls2 := [(3, .int (0 : Int32)), (2, .int (0 : Int32)), (0, .ref 37), (1, .int v1)]) dX2_pagesOf_3 rfl (by decide) rfl ?_
  refine sx_locs [2, 3, 1, 0] rfl ?_
  exact F2_pagesOf_4_ok l  v1 (0 : Int32) (0 : Int32) q h hk9
theorem F2_pagesOf_ck (l : Launch)  (v1 : Int32) (q : SQ) {r : Int32 × SQ} (h : F2_pagesOf  v1 q = some r) : CK shX vwCl KX tfX l yX2_pagesOf cX2_pagesOf 4 ((some .int)) 0 0 [.ref 37, .int v1] q (some (.int r.1)) r.2 :=
  CK.of mi_X2_pagesOf (Nat.le_of_ble_eq_true rfl) (F2_pagesOf_ok l  v1 q h ⟨rfl, rfl⟩)
theorem mi_X2_hasBy : sx_MI yX2_hasBy cX2_hasBy 4 ((some .int)) 2 := ⟨by decide, ⟨by decide, by decide, by decide +kernel⟩, gw_653, gw_66⟩
abbrev PF2_hasBy (l : Launch) (Q : Option Value → SQ → Prop) : Nat → List (Nat × Value) → List Value → SQ → Prop := XX shX vwCl KX tfX l RX2 cX2_hasBy 4 ((some .int)) { frames := 1, cells := 0, slots := 0, locals := 23 } Q
def F2_hasBy_19  (v1 : Int32) (v2 : Int32) (s0 : Int32) (q : SQ) : Option (Int32 × SQ) :=
  (F2_pagesOf  v1 q).bind (fun z1 => (if z1.1 < gI z1.2 37 0 then some (s0, z1.2) else (if sx_ix v2 8 = true then some (s0 + (gI z1.2 40 v2.toNatClampNeg), z1.2) else none)))
set_option maxHeartbeats 400000 in
theorem F2_hasBy_19_ok (l : Launch)  {Q : Option Value → SQ → Prop} (v1 : Int32) (v2 : Int32) (s0 : Int32) (q : SQ) {res : Int32 × SQ} (h : F2_hasBy_19  v1 v2 s0 q = some res) (hk9 : Q (some (.int res.1)) res.2) : PF2_hasBy l Q 19 [(0, .ref 37), (1, .int v1), (2, .int v2)] [.int s0] q := by
  unfold F2_hasBy_19 at h
  refine sx_istore_n (ls2 := [(3, .int s0), (0, .ref 37), (1, .int v1), (2, .int v2)]) dX2_hasBy_19 rfl (by decide) rfl ?_
  refine sx_aload_n dX2_hasBy_20 rfl rfl ?_
  refine sx_iload_n dX2_hasBy_21 rfl rfl ?_
  obtain ⟨z1, hz1, h⟩ := sx_bd h
  refine sx_callV (o := 37) (As := [.int v1]) (rest := []) KSX (F2_pagesOf_ck l  v1 q hz1) mi_X2_pagesOf gw_654 rfl ⟨gw_656, gw_21⟩ shX_37 rfl rfl ⟨Nat.le_of_ble_eq_true rfl, Nat.le_of_ble_eq_true rfl⟩ (Nat.le_of_ble_eq_true rfl) dX2_hasBy_22 rfl ?_
  refine sx_aload_n dX2_hasBy_25 rfl rfl ?_
  refine sx_getI dX2_hasBy_26 (hs := shX_37) (k9 := 0) (hf := rfl) cb_X2 ⟨by decide, rfl, gw_250⟩ ?_
  refine sx_icmp_lt (tgt := 43) dX2_hasBy_29 (by decide) (fun c9 => ?_) (fun c9 => ?_)
  · replace h := sx_ip h c9
    refine sx_iload_n dX2_hasBy_43 rfl rfl ?_
    obtain rfl := Option.some.inj h
    exact sx_iret dX2_hasBy_44 rfl hk9
  · replace h := sx_in h c9
    refine sx_iload_n dX2_hasBy_32 rfl rfl ?_
    refine sx_aload_n dX2_hasBy_33 rfl rfl ?_
    refine sx_getR dX2_hasBy_34 (hs := shX_37) (k9 := 4) (hf := rfl) cb_X2 ⟨by decide, rfl, gw_258⟩ ?_
    refine sx_iload_n dX2_hasBy_37 rfl rfl ?_
    obtain ⟨g9, h⟩ := sx_gd h
    refine sx_iald dX2_hasBy_38 shX_40 (fun _ _ => rfl) (sx_ix_in g9) ?_
    refine sx_iadd dX2_hasBy_39 ?_
    refine sx_goto (tgt := 44) dX2_hasBy_40 (by decide) ?_
    obtain rfl := Option.some.inj h
    exact sx_iret dX2_hasBy_44 rfl hk9
def F2_hasBy  (v1 : Int32) (v2 : Int32) (q : SQ) : Option (Int32 × SQ) :=
  (if (v1 >>> (v2 &&& 31)) &&& (1 : Int32) = (1 : Int32) then (if sx_ix v2 8 = true then F2_hasBy_19  v1 v2 (gI q 39 v2.toNatClampNeg) q else none) else F2_hasBy_19  v1 v2 (0 : Int32) q)
set_option maxHeartbeats 400000 in
theorem F2_hasBy_ok (l : Launch)  {Q : Option Value → SQ → Prop} (v1 : Int32) (v2 : Int32) (q : SQ) {res : Int32 × SQ} (h : F2_hasBy  v1 v2 q = some res) (hk9 : Q (some (.int res.1)) res.2) : PF2_hasBy l Q 0 [(0, .ref 37), (1, .int v1), (2, .int v2)] [] q := by
  unfold F2_hasBy at h
  refine sx_iload_n dX2_hasBy_0 rfl rfl ?_
  refine sx_iload_n dX2_hasBy_1 rfl rfl ?_
  refine sx_ishr dX2_hasBy_2 ?_
  refine sx_iconst (v := (1 : Int32)) dX2_hasBy_3 (by decide) ?_
  refine sx_iand dX2_hasBy_4 ?_
  refine sx_iconst (v := (1 : Int32)) dX2_hasBy_5 (by decide) ?_
  refine sx_icmp_ne (tgt := 18) dX2_hasBy_6 (by decide) (fun c9 => ?_) (fun c9 => ?_)
  · replace h := sx_in h c9
    refine sx_iconst (v := (0 : Int32)) dX2_hasBy_18 (by decide) ?_
    exact F2_hasBy_19_ok l  v1 v2 (0 : Int32) q h hk9
  · replace h := sx_ip h c9
    refine sx_aload_n dX2_hasBy_9 rfl rfl ?_
    refine sx_getR dX2_hasBy_10 (hs := shX_37) (k9 := 3) (hf := rfl) cb_X2 ⟨by decide, rfl, gw_256⟩ ?_
    refine sx_iload_n dX2_hasBy_13 rfl rfl ?_
    obtain ⟨g9, h⟩ := sx_gd h
    refine sx_iald dX2_hasBy_14 shX_39 (fun _ _ => rfl) (sx_ix_in g9) ?_
    refine sx_goto (tgt := 19) dX2_hasBy_15 (by decide) ?_
    exact F2_hasBy_19_ok l  v1 v2 (gI q 39 v2.toNatClampNeg) q h hk9
theorem F2_hasBy_ck (l : Launch)  (v1 : Int32) (v2 : Int32) (q : SQ) {r : Int32 × SQ} (h : F2_hasBy  v1 v2 q = some r) : CK shX vwCl KX tfX l yX2_hasBy cX2_hasBy 4 ((some .int)) 1 23 [.ref 37, .int v1, .int v2] q (some (.int r.1)) r.2 :=
  CK.of mi_X2_hasBy (Nat.le_of_ble_eq_true rfl) (F2_hasBy_ok l  v1 v2 q h ⟨rfl, rfl⟩)
theorem mi_X2_isRest : sx_MI yX2_isRest cX2_isRest 3 ((some .boolean)) 1 := ⟨by decide, ⟨by decide, by decide, by decide +kernel⟩, gw_649, gw_66⟩
abbrev PF2_isRest (l : Launch) (Q : Option Value → SQ → Prop) : Nat → List (Nat × Value) → List Value → SQ → Prop := XX shX vwCl KX tfX l RX2 cX2_isRest 3 ((some .boolean)) { frames := 2, cells := 0, slots := 0, locals := 46 } Q
def F2_isRest_2b  (v1 : Int32) (v2 : Int32) (q : SQ) : Option ((Int32 × SQ) ⊕ (Int32 × SQ)) :=
  (if gI q 37 1 ≤ v2 then some (.inr ((1 : Int32), q)) else (F2_hasBy  (v1 ^^^ ((1 : Int32) <<< (v2 &&& 31))) v2 q).bind (fun z1 => (F2_hasBy  v1 v2 z1.2).bind (fun z2 => (if z1.1 ≤ z2.1 then sx_let (v2 + (1 : Int32)) (fun x3 => some (.inl (x3, z2.2))) else some (.inr ((0 : Int32), z2.2))))))
set_option maxHeartbeats 400000 in
theorem F2_isRest_2b_ok (l : Launch)  {Q : Option Value → SQ → Prop} (v1 : Int32) (v2 : Int32) (q : SQ) {res : (Int32 × SQ) ⊕ (Int32 × SQ)} (h : F2_isRest_2b  v1 v2 q = some res) (hk9 : (∀ a4, res = .inl a4 → PF2_isRest l Q 2 [(0, .ref 37), (1, .int v1), (2, .int a4.1)] [] a4.2) ∧ (∀ b5, res = .inr b5 → Q (some (.int b5.1)) b5.2)) : PF2_isRest l Q 2 [(0, .ref 37), (1, .int v1), (2, .int v2)] [] q := by
  unfold F2_isRest_2b at h
  refine sx_iload_n dX2_isRest_2 rfl rfl ?_
  refine sx_aload_n dX2_isRest_3 rfl rfl ?_
  refine sx_getI dX2_isRest_4 (hs := shX_37) (k9 := 1) (hf := rfl) cb_X2 ⟨by decide, rfl, gw_252⟩ ?_
  refine sx_icmp_ge (tgt := 37) dX2_isRest_7 (by decide) (fun c9 => ?_) (fun c9 => ?_)
  · replace h := sx_ip h c9
    refine sx_iconst (v := (1 : Int32)) dX2_isRest_37 (by decide) ?_
    have hk9 := hk9.2 _ (Option.some.inj h).symm
    exact sx_zret dX2_isRest_38 rfl (by decide) hk9
  · replace h := sx_in h c9
    refine sx_aload_n dX2_isRest_10 rfl rfl ?_
    refine sx_iload_n dX2_isRest_11 rfl rfl ?_
    refine sx_iconst (v := (1 : Int32)) dX2_isRest_12 (by decide) ?_
    refine sx_iload_n dX2_isRest_13 rfl rfl ?_
    refine sx_ishl dX2_isRest_14 ?_
    refine sx_ixor dX2_isRest_15 ?_
    refine sx_iload_n dX2_isRest_16 rfl rfl ?_
    obtain ⟨z1, hz1, h⟩ := sx_bd h
    refine sx_callV (o := 37) (As := [.int (v1 ^^^ ((1 : Int32) <<< (v2 &&& 31))), .int v2]) (rest := []) KSX (F2_hasBy_ck l  (v1 ^^^ ((1 : Int32) <<< (v2 &&& 31))) v2 q hz1) mi_X2_hasBy gw_650 rfl ⟨gw_652, gw_20⟩ shX_37 rfl rfl ⟨Nat.le_of_ble_eq_true rfl, Nat.le_of_ble_eq_true rfl⟩ (Nat.le_of_ble_eq_true rfl) dX2_isRest_17 rfl ?_
    refine sx_aload_n dX2_isRest_20 rfl rfl ?_
    refine sx_iload_n dX2_isRest_21 rfl rfl ?_
    refine sx_iload_n dX2_isRest_22 rfl rfl ?_
    obtain ⟨z2, hz2, h⟩ := sx_bd h
    refine sx_callV (o := 37) (As := [.int v1, .int v2]) (rest := [.int z1.1]) KSX (F2_hasBy_ck l  v1 v2 z1.2 hz2) mi_X2_hasBy gw_650 rfl ⟨gw_652, gw_20⟩ shX_37 rfl rfl ⟨Nat.le_of_ble_eq_true rfl, Nat.le_of_ble_eq_true rfl⟩ (Nat.le_of_ble_eq_true rfl) dX2_isRest_23 rfl ?_
    refine sx_icmp_le (tgt := 31) dX2_isRest_26 (by decide) (fun c9 => ?_) (fun c9 => ?_)
    · replace h := sx_ip h c9
      obtain ⟨x3, ex3, h⟩ := sx_lt h
      refine sx_iinc (k9 := 2) (v := x3) (ls2 := [(2, .int x3), (0, .ref 37), (1, .int v1)]) dX2_isRest_31 rfl (by rw [ex3, sx_ofI1]) (by decide) rfl ?_
      refine sx_goto (tgt := 2) dX2_isRest_34 (by decide) ?_
      refine sx_locs [1, 2, 0] rfl ?_
      exact hk9.1 (x3, z2.2) (Option.some.inj h).symm
    · replace h := sx_in h c9
      refine sx_iconst (v := (0 : Int32)) dX2_isRest_29 (by decide) ?_
      have hk9 := hk9.2 _ (Option.some.inj h).symm
      exact sx_zret dX2_isRest_30 rfl (by decide) hk9
def F2_isRest_2  (v1 : Int32) (v2 : Int32) (q : SQ) : Option (Int32 × SQ) := sx_loop (fun s6 => F2_isRest_2b  v1 s6.1 s6.2) FU (v2, q)
set_option maxHeartbeats 400000 in
theorem F2_isRest_2_ok (l : Launch)  {Q : Option Value → SQ → Prop} (v1 : Int32) (v2 : Int32) (q : SQ) {t : Int32 × SQ} (h : F2_isRest_2  v1 v2 q = some t) (hk9 : Q (some (.int t.1)) t.2) : PF2_isRest l Q 2 [(0, .ref 37), (1, .int v1), (2, .int v2)] [] q := by
  unfold F2_isRest_2 at h
  have st : ∀ (s : Int32 × SQ) (res : (Int32 × SQ) ⊕ (Int32 × SQ)), F2_isRest_2b  v1 s.1 s.2 = some res → (∀ s2, res = .inl s2 → PF2_isRest l Q 2 [(0, .ref 37), (1, .int v1), (2, .int s2.1)] [] s2.2) → (∀ t2, res = .inr t2 → Q (some (.int t2.1)) t2.2) → PF2_isRest l Q 2 [(0, .ref 37), (1, .int v1), (2, .int s.1)] [] s.2 :=
    fun s res hb hi ho => F2_isRest_2b_ok l  v1 s.1 s.2 hb ⟨hi, ho⟩
  have h9 : PF2_isRest l Q 2 [(0, .ref 37), (1, .int v1), (2, .int v2)] [] q := sx_lp (body := fun s => F2_isRest_2b  v1 s.1 s.2) (P := fun s => PF2_isRest l Q 2 [(0, .ref 37), (1, .int v1), (2, .int s.1)] [] s.2) (T := fun t => Q (some (.int t.1)) t.2) st FU (v2, q) t h hk9
  exact h9
def F2_isRest  (v1 : Int32) (q : SQ) : Option (Int32 × SQ) :=
  F2_isRest_2  v1 (0 : Int32) q
set_option maxHeartbeats 400000 in
theorem F2_isRest_ok (l : Launch)  {Q : Option Value → SQ → Prop} (v1 : Int32) (q : SQ) {res : Int32 × SQ} (h : F2_isRest  v1 q = some res) (hk9 : Q (some (.int res.1)) res.2) : PF2_isRest l Q 0 [(0, .ref 37), (1, .int v1)] [] q := by
  unfold F2_isRest at h
  refine sx_iconst (v := (0 : Int32)) dX2_isRest_0 (by decide) ?_
  refine sx_istore_n (ls2 := [(2, .int (0 : Int32)), (0, .ref 37), (1, .int v1)]) dX2_isRest_1 rfl (by decide) rfl ?_
  refine sx_locs [1, 2, 0] rfl ?_
  exact F2_isRest_2_ok l  v1 (0 : Int32) q h hk9
theorem F2_isRest_ck (l : Launch)  (v1 : Int32) (q : SQ) {r : Int32 × SQ} (h : F2_isRest  v1 q = some r) : CK shX vwCl KX tfX l yX2_isRest cX2_isRest 3 ((some .boolean)) 2 46 [.ref 37, .int v1] q (some (.int r.1)) r.2 :=
  CK.of mi_X2_isRest (Nat.le_of_ble_eq_true rfl) (F2_isRest_ok l  v1 q h ⟨rfl, rfl⟩)
theorem mi_X6_rests : sx_MI yX6_rests cX6_rests 7 ((some .int)) 3 := ⟨by decide, ⟨by decide, by decide, by decide +kernel⟩, gw_640, gw_60⟩
abbrev PF6_rests (l : Launch) (Q : Option Value → SQ → Prop) : Nat → List (Nat × Value) → List Value → SQ → Prop := XX shX vwCl KX tfX l RX6 cX6_rests 7 ((some .int)) { frames := 5, cells := 0, slots := 0, locals := 120 } Q
def F6_rests_30   (q : SQ) : Option (Int32 × SQ) :=
  some ((-1 : Int32), q)
set_option maxHeartbeats 400000 in
theorem F6_rests_30_ok (l : Launch)  {Q : Option Value → SQ → Prop}  (q : SQ) {res : Int32 × SQ} (h : F6_rests_30   q = some res) (hk9 : Q (some (.int res.1)) res.2) : PF6_rests l Q 30 [] [] q := by
  unfold F6_rests_30 at h
  refine sx_iconst (v := (-1 : Int32)) dX6_rests_30 (by decide) ?_
  obtain rfl := Option.some.inj h
  exact sx_iret dX6_rests_31 rfl hk9
def F6_rests_99  (v3 : Int32) (v4 : Int32) (v5 : Int32) (v6 : Int32) (q : SQ) : Option ((Int32 × Int32 × Int32 × SQ) ⊕ (Int32 × SQ)) :=
  sx_let (v6 + (1 : Int32)) (fun x6 => some (.inl (v4, v5, x6, q)))
set_option maxHeartbeats 400000 in
theorem F6_rests_99_ok (l : Launch)  {Q : Option Value → SQ → Prop} (v3 : Int32) (v4 : Int32) (v5 : Int32) (v6 : Int32) (q : SQ) {res : (Int32 × Int32 × Int32 × SQ) ⊕ (Int32 × SQ)} (h : F6_rests_99  v3 v4 v5 v6 q = some res) (hk9 : (∀ a7, res = .inl a7 → PF6_rests l Q 61 [(0, .ref 0), (3, .int v3), (4, .int a7.1), (5, .int a7.2.1), (6, .int a7.2.2.1)] [] a7.2.2.2) ∧ (∀ b8, res = .inr b8 → Q (some (.int b8.1)) b8.2)) : PF6_rests l Q 99 [(0, .ref 0), (3, .int v3), (4, .int v4), (5, .int v5), (6, .int v6)] [] q := by
  unfold F6_rests_99 at h
  obtain ⟨x6, ex6, h⟩ := sx_lt h
  refine sx_iinc (k9 := 4) (v := x6) (ls2 := [(6, .int x6), (0, .ref 0), (3, .int v3), (4, .int v4), (5, .int v5)]) dX6_rests_99 rfl (by rw [ex6, sx_ofI1]) (by decide) rfl ?_
  refine sx_goto (tgt := 61) dX6_rests_102 (by decide) ?_
  refine sx_locs [1, 2, 3, 4, 0] rfl ?_
  exact hk9.1 (v4, v5, x6, q) (Option.some.inj h).symm
def F6_rests_96  (v3 : Int32) (v4 : Int32) (v5 : Int32) (v6 : Int32) (q : SQ) : Option ((Int32 × Int32 × Int32 × SQ) ⊕ (Int32 × SQ)) :=
  sx_let (v4 + (1 : Int32)) (fun x9 => F6_rests_99  v3 x9 v5 v6 q)
set_option maxHeartbeats 400000 in
theorem F6_rests_96_ok (l : Launch)  {Q : Option Value → SQ → Prop} (v3 : Int32) (v4 : Int32) (v5 : Int32) (v6 : Int32) (q : SQ) {res : (Int32 × Int32 × Int32 × SQ) ⊕ (Int32 × SQ)} (h : F6_rests_96  v3 v4 v5 v6 q = some res) (hk9 : (∀ a10, res = .inl a10 → PF6_rests l Q 61 [(0, .ref 0), (3, .int v3), (4, .int a10.1), (5, .int a10.2.1), (6, .int a10.2.2.1)] [] a10.2.2.2) ∧ (∀ b11, res = .inr b11 → Q (some (.int b11.1)) b11.2)) : PF6_rests l Q 96 [(0, .ref 0), (3, .int v3), (4, .int v4), (5, .int v5), (6, .int v6)] [] q := by
  unfold F6_rests_96 at h
  obtain ⟨x9, ex9, h⟩ := sx_lt h
  refine sx_iinc (k9 := 2) (v := x9) (ls2 := [(4, .int x9), (0, .ref 0), (3, .int v3), (5, .int v5), (6, .int v6)]) dX6_rests_96 rfl (by rw [ex9, sx_ofI1]) (by decide) rfl ?_
  refine sx_locs [1, 2, 0, 3, 4] rfl ?_
  exact F6_rests_99_ok l  v3 x9 v5 v6 q h hk9
def F6_rests_61b  (v3 : Int32) (v4 : Int32) (v5 : Int32) (v6 : Int32) (q : SQ) : Option ((Int32 × Int32 × Int32 × SQ) ⊕ (Int32 × SQ)) :=
  (if (1 : Int32) <<< (gI q 1 0 &&& 31) ≤ v6 then (if v3 = 0 then some (.inr (v4, q)) else some (.inr (v5, q))) else (F2_isRest  v6 q).bind (fun z5 => (if z5.1 = 0 then F6_rests_99  v3 v4 v5 v6 z5.2 else (if v4 = 0 then F6_rests_96  v3 v4 v6 v6 z5.2 else F6_rests_96  v3 v4 v5 v6 z5.2))))
set_option maxHeartbeats 400000 in
theorem F6_rests_61b_ok (l : Launch)  {Q : Option Value → SQ → Prop} (v3 : Int32) (v4 : Int32) (v5 : Int32) (v6 : Int32) (q : SQ) {res : (Int32 × Int32 × Int32 × SQ) ⊕ (Int32 × SQ)} (h : F6_rests_61b  v3 v4 v5 v6 q = some res) (hk9 : (∀ a12, res = .inl a12 → PF6_rests l Q 61 [(0, .ref 0), (3, .int v3), (4, .int a12.1), (5, .int a12.2.1), (6, .int a12.2.2.1)] [] a12.2.2.2) ∧ (∀ b13, res = .inr b13 → Q (some (.int b13.1)) b13.2)) : PF6_rests l Q 61 [(0, .ref 0), (3, .int v3), (4, .int v4), (5, .int v5), (6, .int v6)] [] q := by
  unfold F6_rests_61b at h
  refine sx_iload dX6_rests_61 rfl ?_
  refine sx_iconst (v := (1 : Int32)) dX6_rests_63 (by decide) ?_
  refine sx_aload_n dX6_rests_64 rfl rfl ?_
  refine sx_getR dX6_rests_65 (hs := shX_0) (k9 := 0) (hf := rfl) cb_X6 ⟨by decide, rfl, gw_292⟩ ?_
  refine sx_getI dX6_rests_68 (hs := shX_1) (k9 := 0) (hf := rfl) cb_X4 ⟨by decide, rfl, gw_90⟩ ?_
  refine sx_ishl dX6_rests_71 ?_
  refine sx_icmp_ge (tgt := 105) dX6_rests_72 (by decide) (fun c9 => ?_) (fun c9 => ?_)
  · replace h := sx_ip h c9
    refine sx_iload_n dX6_rests_105 rfl rfl ?_
    refine sx_if_ne (tgt := 114) dX6_rests_106 (by decide) (fun c9 => ?_) (fun c9 => ?_)
    · replace h := sx_in h c9
      refine sx_iload dX6_rests_114 rfl ?_
      have hk9 := hk9.2 _ (Option.some.inj h).symm
      exact sx_iret dX6_rests_116 rfl hk9
    · replace h := sx_ip h c9
      refine sx_iload dX6_rests_109 rfl ?_
      refine sx_goto (tgt := 116) dX6_rests_111 (by decide) ?_
      have hk9 := hk9.2 _ (Option.some.inj h).symm
      exact sx_iret dX6_rests_116 rfl hk9
  · replace h := sx_in h c9
    refine sx_aload_n dX6_rests_75 rfl rfl ?_
    refine sx_getR dX6_rests_76 (hs := shX_0) (k9 := 7) (hf := rfl) cb_X6 ⟨by decide, rfl, gw_299⟩ ?_
    refine sx_iload dX6_rests_79 rfl ?_
    obtain ⟨z5, hz5, h⟩ := sx_bd h
    refine sx_callV (o := 37) (As := [.int v6]) (rest := []) KSX (F2_isRest_ck l  v6 q hz5) mi_X2_isRest gw_646 rfl ⟨gw_647, gw_648⟩ shX_37 rfl rfl ⟨Nat.le_of_ble_eq_true rfl, Nat.le_of_ble_eq_true rfl⟩ (Nat.le_of_ble_eq_true rfl) dX6_rests_81 rfl ?_
    refine sx_if_eq (tgt := 99) dX6_rests_84 (by decide) (fun c9 => ?_) (fun c9 => ?_)
    · replace h := sx_ip h c9
      exact F6_rests_99_ok l  v3 v4 v5 v6 z5.2 h hk9
    · replace h := sx_in h c9
      refine sx_iload dX6_rests_87 rfl ?_
      refine sx_if_ne (tgt := 96) dX6_rests_89 (by decide) (fun c9 => ?_) (fun c9 => ?_)
      · replace h := sx_in h c9
        exact F6_rests_96_ok l  v3 v4 v5 v6 z5.2 h hk9
      · replace h := sx_ip h c9
        refine sx_iload dX6_rests_92 rfl ?_
        refine sx_istore (ls2 := [(5, .int v6), (0, .ref 0), (3, .int v3), (4, .int v4), (6, .int v6)]) dX6_rests_94 (by decide) rfl ?_
        refine sx_locs [1, 2, 3, 0, 4] rfl ?_
        exact F6_rests_96_ok l  v3 v4 v6 v6 z5.2 h hk9
def F6_rests_61  (v3 : Int32) (v4 : Int32) (v5 : Int32) (v6 : Int32) (q : SQ) : Option (Int32 × SQ) := sx_loop (fun s14 => F6_rests_61b  v3 s14.1 s14.2.1 s14.2.2.1 s14.2.2.2) FU (v4, v5, v6, q)
set_option maxHeartbeats 400000 in
theorem F6_rests_61_ok (l : Launch)  {Q : Option Value → SQ → Prop} (v3 : Int32) (v4 : Int32) (v5 : Int32) (v6 : Int32) (q : SQ) {t : Int32 × SQ} (h : F6_rests_61  v3 v4 v5 v6 q = some t) (hk9 : Q (some (.int t.1)) t.2) : PF6_rests l Q 61 [(0, .ref 0), (3, .int v3), (4, .int v4), (5, .int v5), (6, .int v6)] [] q := by
  unfold F6_rests_61 at h
  have st : ∀ (s : Int32 × Int32 × Int32 × SQ) (res : (Int32 × Int32 × Int32 × SQ) ⊕ (Int32 × SQ)), F6_rests_61b  v3 s.1 s.2.1 s.2.2.1 s.2.2.2 = some res → (∀ s2, res = .inl s2 → PF6_rests l Q 61 [(0, .ref 0), (3, .int v3), (4, .int s2.1), (5, .int s2.2.1), (6, .int s2.2.2.1)] [] s2.2.2.2) → (∀ t2, res = .inr t2 → Q (some (.int t2.1)) t2.2) → PF6_rests l Q 61 [(0, .ref 0), (3, .int v3), (4, .int s.1), (5, .int s.2.1), (6, .int s.2.2.1)] [] s.2.2.2 :=
    fun s res hb hi ho => F6_rests_61b_ok l  v3 s.1 s.2.1 s.2.2.1 s.2.2.2 hb ⟨hi, ho⟩
  have h9 : PF6_rests l Q 61 [(0, .ref 0), (3, .int v3), (4, .int v4), (5, .int v5), (6, .int v6)] [] q := sx_lp (body := fun s => F6_rests_61b  v3 s.1 s.2.1 s.2.2.1 s.2.2.2) (P := fun s => PF6_rests l Q 61 [(0, .ref 0), (3, .int v3), (4, .int s.1), (5, .int s.2.1), (6, .int s.2.2.1)] [] s.2.2.2) (T := fun t => Q (some (.int t.1)) t.2) st FU (v4, v5, v6, q) t h hk9
  exact h9
def F6_rests  (v1 : Int32) (v2 : Int32) (v3 : Int32) (q : SQ) : Option (Int32 × SQ) :=
  (F6_within  v1 (1 : Int32) (999 : Int32) q).bind (fun z1 => (if z1.1 = 0 then F6_rests_30   z1.2 else (F6_within  v2 (0 : Int32) (99 : Int32) z1.2).bind (fun z2 => (if z2.1 = 0 then F6_rests_30   z2.2 else (F6_within  v3 (0 : Int32) (1 : Int32) z2.2).bind (fun z3 => (if z3.1 = 0 then F6_rests_30   z3.2 else (if gI z3.2 1 1 = 0 then some ((-2 : Int32), z3.2) else (F6_fillJar  v1 v2 z3.2).bind (fun z4 => F6_rests_61  v3 (0 : Int32) (-9 : Int32) (0 : Int32) z4.2))))))))
set_option maxHeartbeats 400000 in
theorem F6_rests_ok (l : Launch)  {Q : Option Value → SQ → Prop} (v1 : Int32) (v2 : Int32) (v3 : Int32) (q : SQ) {res : Int32 × SQ} (h : F6_rests  v1 v2 v3 q = some res) (hk9 : Q (some (.int res.1)) res.2) : PF6_rests l Q 0 [(0, .ref 0), (1, .int v1), (2, .int v2), (3, .int v3)] [] q := by
  unfold F6_rests at h
  refine sx_iload_n dX6_rests_0 rfl rfl ?_
  refine sx_iconst (v := (1 : Int32)) dX6_rests_1 (by decide) ?_
  refine sx_sipush (v := (999 : Int32)) dX6_rests_2 (by decide) ?_
  obtain ⟨z1, hz1, h⟩ := sx_bd h
  refine sx_callS (As := [.int v1, .int (1 : Int32), .int (999 : Int32)]) (rest := []) KSX (F6_within_ck l  v1 (1 : Int32) (999 : Int32) q hz1) mi_X6_within gw_333 rfl gw_334 ⟨Nat.le_of_ble_eq_true rfl, Nat.le_of_ble_eq_true rfl⟩ (Nat.le_of_ble_eq_true rfl) dX6_rests_5 rfl ?_
  refine sx_if_eq (tgt := 30) dX6_rests_8 (by decide) (fun c9 => ?_) (fun c9 => ?_)
  · replace h := sx_ip h c9
    refine sx_locs [] rfl ?_
    exact F6_rests_30_ok l   z1.2 h hk9
  · replace h := sx_in h c9
    refine sx_iload_n dX6_rests_11 rfl rfl ?_
    refine sx_iconst (v := (0 : Int32)) dX6_rests_12 (by decide) ?_
    refine sx_bipush (v := (99 : Int32)) dX6_rests_13 (by decide) ?_
    obtain ⟨z2, hz2, h⟩ := sx_bd h
    refine sx_callS (As := [.int v2, .int (0 : Int32), .int (99 : Int32)]) (rest := []) KSX (F6_within_ck l  v2 (0 : Int32) (99 : Int32) z1.2 hz2) mi_X6_within gw_333 rfl gw_334 ⟨Nat.le_of_ble_eq_true rfl, Nat.le_of_ble_eq_true rfl⟩ (Nat.le_of_ble_eq_true rfl) dX6_rests_15 rfl ?_
    refine sx_if_eq (tgt := 30) dX6_rests_18 (by decide) (fun c9 => ?_) (fun c9 => ?_)
    · replace h := sx_ip h c9
      refine sx_locs [] rfl ?_
      exact F6_rests_30_ok l   z2.2 h hk9
    · replace h := sx_in h c9
      refine sx_iload_n dX6_rests_21 rfl rfl ?_
      refine sx_iconst (v := (0 : Int32)) dX6_rests_22 (by decide) ?_
      refine sx_iconst (v := (1 : Int32)) dX6_rests_23 (by decide) ?_
      obtain ⟨z3, hz3, h⟩ := sx_bd h
      refine sx_callS (As := [.int v3, .int (0 : Int32), .int (1 : Int32)]) (rest := []) KSX (F6_within_ck l  v3 (0 : Int32) (1 : Int32) z2.2 hz3) mi_X6_within gw_333 rfl gw_334 ⟨Nat.le_of_ble_eq_true rfl, Nat.le_of_ble_eq_true rfl⟩ (Nat.le_of_ble_eq_true rfl) dX6_rests_24 rfl ?_
      refine sx_if_ne (tgt := 32) dX6_rests_27 (by decide) (fun c9 => ?_) (fun c9 => ?_)
      · replace h := sx_in h c9
        refine sx_aload_n dX6_rests_32 rfl rfl ?_
        refine sx_getR dX6_rests_33 (hs := shX_0) (k9 := 0) (hf := rfl) cb_X6 ⟨by decide, rfl, gw_292⟩ ?_
        refine sx_getI dX6_rests_36 (hs := shX_1) (k9 := 1) (hf := rfl) cb_X4 ⟨by decide, rfl, gw_95⟩ ?_
        refine sx_if_ne (tgt := 45) dX6_rests_39 (by decide) (fun c9 => ?_) (fun c9 => ?_)
        · replace h := sx_in h c9
          refine sx_aload_n dX6_rests_45 rfl rfl ?_
          refine sx_iload_n dX6_rests_46 rfl rfl ?_
          refine sx_iload_n dX6_rests_47 rfl rfl ?_
          obtain ⟨z4, hz4, h⟩ := sx_bd h
          refine sx_callV (o := 0) (As := [.int v1, .int v2]) (rest := []) KSX (F6_fillJar_ck l  v1 v2 z3.2 hz4) mi_X6_fillJar gw_641 rfl ⟨gw_643, gw_19⟩ shX_0 rfl rfl ⟨Nat.le_of_ble_eq_true rfl, Nat.le_of_ble_eq_true rfl⟩ (Nat.le_of_ble_eq_true rfl) dX6_rests_48 rfl ?_
          refine sx_iconst (v := (0 : Int32)) dX6_rests_51 (by decide) ?_
          refine sx_istore (ls2 := [(4, .int (0 : Int32)), (0, .ref 0), (1, .int v1), (2, .int v2), (3, .int v3)]) dX6_rests_52 (by decide) rfl ?_
          refine sx_bipush (v := (-9 : Int32)) dX6_rests_54 (by decide) ?_
          refine sx_istore (ls2 := [(5, .int (-9 : Int32)), (4, .int (0 : Int32)), (0, .ref 0), (1, .int v1), (2, .int v2), (3, .int v3)]) dX6_rests_56 (by decide) rfl ?_
          refine sx_iconst (v := (0 : Int32)) dX6_rests_58 (by decide) ?_
          refine sx_istore (ls2 := [(6, .int (0 : Int32)), (5, .int (-9 : Int32)), (4, .int (0 : Int32)), (0, .ref 0), (1, .int v1), (2, .int v2), (3, .int v3)]) dX6_rests_59 (by decide) rfl ?_
          refine sx_locs [3, 6, 2, 1, 0] rfl ?_
          exact F6_rests_61_ok l  v3 (0 : Int32) (-9 : Int32) (0 : Int32) z4.2 h hk9
        · replace h := sx_ip h c9
          refine sx_bipush (v := (-2 : Int32)) dX6_rests_42 (by decide) ?_
          obtain rfl := Option.some.inj h
          exact sx_iret dX6_rests_44 rfl hk9
      · replace h := sx_ip h c9
        refine sx_locs [] rfl ?_
        exact F6_rests_30_ok l   z3.2 h hk9
theorem F6_rests_ck (l : Launch)  (v1 : Int32) (v2 : Int32) (v3 : Int32) (q : SQ) {r : Int32 × SQ} (h : F6_rests  v1 v2 v3 q = some r) : CK shX vwCl KX tfX l yX6_rests cX6_rests 7 ((some .int)) 5 120 [.ref 0, .int v1, .int v2, .int v3] q (some (.int r.1)) r.2 :=
  CK.of mi_X6_rests (Nat.le_of_ble_eq_true rfl) (F6_rests_ok l  v1 v2 v3 q h ⟨rfl, rfl⟩)
theorem mi_X2_blamedFor : sx_MI yX2_blamedFor cX2_blamedFor 4 ((some .int)) 1 := ⟨by decide, ⟨by decide, by decide, by decide +kernel⟩, gw_665, gw_66⟩
abbrev PF2_blamedFor (l : Launch) (Q : Option Value → SQ → Prop) : Nat → List (Nat × Value) → List Value → SQ → Prop := XX shX vwCl KX tfX l RX2 cX2_blamedFor 4 ((some .int)) { frames := 1, cells := 0, slots := 0, locals := 23 } Q
def F2_blamedFor_52  (v1 : Int32) (v2 : Int32) (v3 : Int32) (q : SQ) : Option ((Int32 × SQ) ⊕ (Int32 × SQ)) :=
  sx_let (v3 + (1 : Int32)) (fun x3 => some (.inl (x3, q)))
set_option maxHeartbeats 400000 in
theorem F2_blamedFor_52_ok (l : Launch)  {Q : Option Value → SQ → Prop} (v1 : Int32) (v2 : Int32) (v3 : Int32) (q : SQ) {res : (Int32 × SQ) ⊕ (Int32 × SQ)} (h : F2_blamedFor_52  v1 v2 v3 q = some res) (hk9 : (∀ a4, res = .inl a4 → PF2_blamedFor l Q 19 [(0, .ref 37), (1, .int v1), (2, .int v2), (3, .int a4.1)] [] a4.2) ∧ (∀ b5, res = .inr b5 → Q (some (.int b5.1)) b5.2)) : PF2_blamedFor l Q 52 [(0, .ref 37), (1, .int v1), (2, .int v2), (3, .int v3)] [] q := by
  unfold F2_blamedFor_52 at h
  obtain ⟨x3, ex3, h⟩ := sx_lt h
  refine sx_iinc (k9 := 3) (v := x3) (ls2 := [(3, .int x3), (0, .ref 37), (1, .int v1), (2, .int v2)]) dX2_blamedFor_52 rfl (by rw [ex3, sx_ofI1]) (by decide) rfl ?_
  refine sx_goto (tgt := 19) dX2_blamedFor_55 (by decide) ?_
  refine sx_locs [1, 2, 3, 0] rfl ?_
  exact hk9.1 (x3, q) (Option.some.inj h).symm
def F2_blamedFor_19b  (v1 : Int32) (v2 : Int32) (v3 : Int32) (q : SQ) : Option ((Int32 × SQ) ⊕ (Int32 × SQ)) :=
  (if gI q 37 1 ≤ v3 then some (.inr ((-9 : Int32), q)) else (if (v1 >>> (v3 &&& 31)) &&& (1 : Int32) = 0 then (if sx_ix v3 8 = true then (if v2 + (gI q 38 v3.toNatClampNeg) < gI q 37 0 then F2_blamedFor_52  v1 v2 v3 q else some (.inr (v3, q))) else none) else F2_blamedFor_52  v1 v2 v3 q))
set_option maxHeartbeats 400000 in
theorem F2_blamedFor_19b_ok (l : Launch)  {Q : Option Value → SQ → Prop} (v1 : Int32) (v2 : Int32) (v3 : Int32) (q : SQ) {res : (Int32 × SQ) ⊕ (Int32 × SQ)} (h : F2_blamedFor_19b  v1 v2 v3 q = some res) (hk9 : (∀ a6, res = .inl a6 → PF2_blamedFor l Q 19 [(0, .ref 37), (1, .int v1), (2, .int v2), (3, .int a6.1)] [] a6.2) ∧ (∀ b7, res = .inr b7 → Q (some (.int b7.1)) b7.2)) : PF2_blamedFor l Q 19 [(0, .ref 37), (1, .int v1), (2, .int v2), (3, .int v3)] [] q := by
  unfold F2_blamedFor_19b at h
  refine sx_iload_n dX2_blamedFor_19 rfl rfl ?_
  refine sx_aload_n dX2_blamedFor_20 rfl rfl ?_
  refine sx_getI dX2_blamedFor_21 (hs := shX_37) (k9 := 1) (hf := rfl) cb_X2 ⟨by decide, rfl, gw_252⟩ ?_
  refine sx_icmp_ge (tgt := 58) dX2_blamedFor_24 (by decide) (fun c9 => ?_) (fun c9 => ?_)
  · replace h := sx_ip h c9
    refine sx_bipush (v := (-9 : Int32)) dX2_blamedFor_58 (by decide) ?_
    have hk9 := hk9.2 _ (Option.some.inj h).symm
    exact sx_iret dX2_blamedFor_60 rfl hk9
  · replace h := sx_in h c9
    refine sx_iload_n dX2_blamedFor_27 rfl rfl ?_
    refine sx_iload_n dX2_blamedFor_28 rfl rfl ?_
    refine sx_ishr dX2_blamedFor_29 ?_
    refine sx_iconst (v := (1 : Int32)) dX2_blamedFor_30 (by decide) ?_
    refine sx_iand dX2_blamedFor_31 ?_
    refine sx_if_ne (tgt := 52) dX2_blamedFor_32 (by decide) (fun c9 => ?_) (fun c9 => ?_)
    · replace h := sx_in h c9
      exact F2_blamedFor_52_ok l  v1 v2 v3 q h hk9
    · replace h := sx_ip h c9
      refine sx_iload_n dX2_blamedFor_35 rfl rfl ?_
      refine sx_aload_n dX2_blamedFor_36 rfl rfl ?_
      refine sx_getR dX2_blamedFor_37 (hs := shX_37) (k9 := 2) (hf := rfl) cb_X2 ⟨by decide, rfl, gw_254⟩ ?_
      refine sx_iload_n dX2_blamedFor_40 rfl rfl ?_
      obtain ⟨g9, h⟩ := sx_gd h
      refine sx_iald dX2_blamedFor_41 shX_38 (fun _ _ => rfl) (sx_ix_in g9) ?_
      refine sx_iadd dX2_blamedFor_42 ?_
      refine sx_aload_n dX2_blamedFor_43 rfl rfl ?_
      refine sx_getI dX2_blamedFor_44 (hs := shX_37) (k9 := 0) (hf := rfl) cb_X2 ⟨by decide, rfl, gw_250⟩ ?_
      refine sx_icmp_lt (tgt := 52) dX2_blamedFor_47 (by decide) (fun c9 => ?_) (fun c9 => ?_)
      · replace h := sx_ip h c9
        exact F2_blamedFor_52_ok l  v1 v2 v3 q h hk9
      · replace h := sx_in h c9
        refine sx_iload_n dX2_blamedFor_50 rfl rfl ?_
        have hk9 := hk9.2 _ (Option.some.inj h).symm
        exact sx_iret dX2_blamedFor_51 rfl hk9
def F2_blamedFor_19  (v1 : Int32) (v2 : Int32) (v3 : Int32) (q : SQ) : Option (Int32 × SQ) := sx_loop (fun s8 => F2_blamedFor_19b  v1 v2 s8.1 s8.2) FU (v3, q)
set_option maxHeartbeats 400000 in
theorem F2_blamedFor_19_ok (l : Launch)  {Q : Option Value → SQ → Prop} (v1 : Int32) (v2 : Int32) (v3 : Int32) (q : SQ) {t : Int32 × SQ} (h : F2_blamedFor_19  v1 v2 v3 q = some t) (hk9 : Q (some (.int t.1)) t.2) : PF2_blamedFor l Q 19 [(0, .ref 37), (1, .int v1), (2, .int v2), (3, .int v3)] [] q := by
  unfold F2_blamedFor_19 at h
  have st : ∀ (s : Int32 × SQ) (res : (Int32 × SQ) ⊕ (Int32 × SQ)), F2_blamedFor_19b  v1 v2 s.1 s.2 = some res → (∀ s2, res = .inl s2 → PF2_blamedFor l Q 19 [(0, .ref 37), (1, .int v1), (2, .int v2), (3, .int s2.1)] [] s2.2) → (∀ t2, res = .inr t2 → Q (some (.int t2.1)) t2.2) → PF2_blamedFor l Q 19 [(0, .ref 37), (1, .int v1), (2, .int v2), (3, .int s.1)] [] s.2 :=
    fun s res hb hi ho => F2_blamedFor_19b_ok l  v1 v2 s.1 s.2 hb ⟨hi, ho⟩
  have h9 : PF2_blamedFor l Q 19 [(0, .ref 37), (1, .int v1), (2, .int v2), (3, .int v3)] [] q := sx_lp (body := fun s => F2_blamedFor_19b  v1 v2 s.1 s.2) (P := fun s => PF2_blamedFor l Q 19 [(0, .ref 37), (1, .int v1), (2, .int v2), (3, .int s.1)] [] s.2) (T := fun t => Q (some (.int t.1)) t.2) st FU (v3, q) t h hk9
  exact h9
def F2_blamedFor  (v1 : Int32) (q : SQ) : Option (Int32 × SQ) :=
  (F2_pagesOf  v1 q).bind (fun z1 => sx_let z1.1 (fun x2 => (if x2 < gI z1.2 37 0 then F2_blamedFor_19  v1 x2 (0 : Int32) z1.2 else some ((-9 : Int32), z1.2))))
set_option maxHeartbeats 400000 in
theorem F2_blamedFor_ok (l : Launch)  {Q : Option Value → SQ → Prop} (v1 : Int32) (q : SQ) {res : Int32 × SQ} (h : F2_blamedFor  v1 q = some res) (hk9 : Q (some (.int res.1)) res.2) : PF2_blamedFor l Q 0 [(0, .ref 37), (1, .int v1)] [] q := by
  unfold F2_blamedFor at h
  refine sx_aload_n dX2_blamedFor_0 rfl rfl ?_
  refine sx_iload_n dX2_blamedFor_1 rfl rfl ?_
  obtain ⟨z1, hz1, h⟩ := sx_bd h
  refine sx_callV (o := 37) (As := [.int v1]) (rest := []) KSX (F2_pagesOf_ck l  v1 q hz1) mi_X2_pagesOf gw_654 rfl ⟨gw_656, gw_21⟩ shX_37 rfl rfl ⟨Nat.le_of_ble_eq_true rfl, Nat.le_of_ble_eq_true rfl⟩ (Nat.le_of_ble_eq_true rfl) dX2_blamedFor_2 rfl ?_
  obtain ⟨x2, ex2, h⟩ := sx_lt h
  refine sx_nmI ex2 ?_
  refine sx_istore_n (ls2 := [(2, .int x2), (0, .ref 37), (1, .int v1)]) dX2_blamedFor_5 rfl (by decide) rfl ?_
  refine sx_iload_n dX2_blamedFor_6 rfl rfl ?_
  refine sx_aload_n dX2_blamedFor_7 rfl rfl ?_
  refine sx_getI dX2_blamedFor_8 (hs := shX_37) (k9 := 0) (hf := rfl) cb_X2 ⟨by decide, rfl, gw_250⟩ ?_
  refine sx_icmp_lt (tgt := 17) dX2_blamedFor_11 (by decide) (fun c9 => ?_) (fun c9 => ?_)
  · replace h := sx_ip h c9
    refine sx_iconst (v := (0 : Int32)) dX2_blamedFor_17 (by decide) ?_
    refine sx_istore_n (ls2 := [(3, .int (0 : Int32)), (2, .int x2), (0, .ref 37), (1, .int v1)]) dX2_blamedFor_18 rfl (by decide) rfl ?_
    refine sx_locs [2, 3, 1, 0] rfl ?_
    exact F2_blamedFor_19_ok l  v1 x2 (0 : Int32) z1.2 h hk9
  · replace h := sx_in h c9
    refine sx_bipush (v := (-9 : Int32)) dX2_blamedFor_14 (by decide) ?_
    obtain rfl := Option.some.inj h
    exact sx_iret dX2_blamedFor_16 rfl hk9
theorem F2_blamedFor_ck (l : Launch)  (v1 : Int32) (q : SQ) {r : Int32 × SQ} (h : F2_blamedFor  v1 q = some r) : CK shX vwCl KX tfX l yX2_blamedFor cX2_blamedFor 4 ((some .int)) 1 23 [.ref 37, .int v1] q (some (.int r.1)) r.2 :=
  CK.of mi_X2_blamedFor (Nat.le_of_ble_eq_true rfl) (F2_blamedFor_ok l  v1 q h ⟨rfl, rfl⟩)
theorem mi_X6_blamed : sx_MI yX6_blamed cX6_blamed 3 ((some .int)) 2 := ⟨by decide, ⟨by decide, by decide, by decide +kernel⟩, gw_661, gw_60⟩
abbrev PF6_blamed (l : Launch) (Q : Option Value → SQ → Prop) : Nat → List (Nat × Value) → List Value → SQ → Prop := XX shX vwCl KX tfX l RX6 cX6_blamed 3 ((some .int)) { frames := 5, cells := 0, slots := 0, locals := 120 } Q
def F6_blamed_30   (q : SQ) : Option (Int32 × SQ) :=
  some ((-1 : Int32), q)
set_option maxHeartbeats 400000 in
theorem F6_blamed_30_ok (l : Launch)  {Q : Option Value → SQ → Prop}  (q : SQ) {res : Int32 × SQ} (h : F6_blamed_30   q = some res) (hk9 : Q (some (.int res.1)) res.2) : PF6_blamed l Q 30 [] [] q := by
  unfold F6_blamed_30 at h
  refine sx_iconst (v := (-1 : Int32)) dX6_blamed_30 (by decide) ?_
  obtain rfl := Option.some.inj h
  exact sx_iret dX6_blamed_31 rfl hk9
def F6_blamed  (v1 : Int32) (v2 : Int32) (q : SQ) : Option (Int32 × SQ) :=
  (F6_within  v1 (1 : Int32) (999 : Int32) q).bind (fun z1 => (if z1.1 = 0 then F6_blamed_30   z1.2 else (F6_within  v2 (0 : Int32) (((1 : Int32) <<< (gI z1.2 1 0 &&& 31)) - (1 : Int32)) z1.2).bind (fun z2 => (if z2.1 = 0 then F6_blamed_30   z2.2 else (if gI z2.2 1 1 = 0 then some ((-2 : Int32), z2.2) else (F6_fillJar  v1 (0 : Int32) z2.2).bind (fun z3 => (F2_blamedFor  v2 z3.2).bind (fun z4 => some (z4.1, z4.2))))))))
set_option maxHeartbeats 400000 in
theorem F6_blamed_ok (l : Launch)  {Q : Option Value → SQ → Prop} (v1 : Int32) (v2 : Int32) (q : SQ) {res : Int32 × SQ} (h : F6_blamed  v1 v2 q = some res) (hk9 : Q (some (.int res.1)) res.2) : PF6_blamed l Q 0 [(0, .ref 0), (1, .int v1), (2, .int v2)] [] q := by
  unfold F6_blamed at h
  refine sx_iload_n dX6_blamed_0 rfl rfl ?_
  refine sx_iconst (v := (1 : Int32)) dX6_blamed_1 (by decide) ?_
  refine sx_sipush (v := (999 : Int32)) dX6_blamed_2 (by decide) ?_
  obtain ⟨z1, hz1, h⟩ := sx_bd h
  refine sx_callS (As := [.int v1, .int (1 : Int32), .int (999 : Int32)]) (rest := []) KSX (F6_within_ck l  v1 (1 : Int32) (999 : Int32) q hz1) mi_X6_within gw_333 rfl gw_334 ⟨Nat.le_of_ble_eq_true rfl, Nat.le_of_ble_eq_true rfl⟩ (Nat.le_of_ble_eq_true rfl) dX6_blamed_5 rfl ?_
  refine sx_if_eq (tgt := 30) dX6_blamed_8 (by decide) (fun c9 => ?_) (fun c9 => ?_)
  · replace h := sx_ip h c9
    refine sx_locs [] rfl ?_
    exact F6_blamed_30_ok l   z1.2 h hk9
  · replace h := sx_in h c9
    refine sx_iload_n dX6_blamed_11 rfl rfl ?_
    refine sx_iconst (v := (0 : Int32)) dX6_blamed_12 (by decide) ?_
    refine sx_iconst (v := (1 : Int32)) dX6_blamed_13 (by decide) ?_
    refine sx_aload_n dX6_blamed_14 rfl rfl ?_
    refine sx_getR dX6_blamed_15 (hs := shX_0) (k9 := 0) (hf := rfl) cb_X6 ⟨by decide, rfl, gw_292⟩ ?_
    refine sx_getI dX6_blamed_18 (hs := shX_1) (k9 := 0) (hf := rfl) cb_X4 ⟨by decide, rfl, gw_90⟩ ?_
    refine sx_ishl dX6_blamed_21 ?_
    refine sx_iconst (v := (1 : Int32)) dX6_blamed_22 (by decide) ?_
    refine sx_isub dX6_blamed_23 ?_
    obtain ⟨z2, hz2, h⟩ := sx_bd h
    refine sx_callS (As := [.int v2, .int (0 : Int32), .int (((1 : Int32) <<< (gI z1.2 1 0 &&& 31)) - (1 : Int32))]) (rest := []) KSX (F6_within_ck l  v2 (0 : Int32) (((1 : Int32) <<< (gI z1.2 1 0 &&& 31)) - (1 : Int32)) z1.2 hz2) mi_X6_within gw_333 rfl gw_334 ⟨Nat.le_of_ble_eq_true rfl, Nat.le_of_ble_eq_true rfl⟩ (Nat.le_of_ble_eq_true rfl) dX6_blamed_24 rfl ?_
    refine sx_if_ne (tgt := 32) dX6_blamed_27 (by decide) (fun c9 => ?_) (fun c9 => ?_)
    · replace h := sx_in h c9
      refine sx_aload_n dX6_blamed_32 rfl rfl ?_
      refine sx_getR dX6_blamed_33 (hs := shX_0) (k9 := 0) (hf := rfl) cb_X6 ⟨by decide, rfl, gw_292⟩ ?_
      refine sx_getI dX6_blamed_36 (hs := shX_1) (k9 := 1) (hf := rfl) cb_X4 ⟨by decide, rfl, gw_95⟩ ?_
      refine sx_if_ne (tgt := 45) dX6_blamed_39 (by decide) (fun c9 => ?_) (fun c9 => ?_)
      · replace h := sx_in h c9
        refine sx_aload_n dX6_blamed_45 rfl rfl ?_
        refine sx_iload_n dX6_blamed_46 rfl rfl ?_
        refine sx_iconst (v := (0 : Int32)) dX6_blamed_47 (by decide) ?_
        obtain ⟨z3, hz3, h⟩ := sx_bd h
        refine sx_callV (o := 0) (As := [.int v1, .int (0 : Int32)]) (rest := []) KSX (F6_fillJar_ck l  v1 (0 : Int32) z2.2 hz3) mi_X6_fillJar gw_641 rfl ⟨gw_643, gw_19⟩ shX_0 rfl rfl ⟨Nat.le_of_ble_eq_true rfl, Nat.le_of_ble_eq_true rfl⟩ (Nat.le_of_ble_eq_true rfl) dX6_blamed_48 rfl ?_
        refine sx_aload_n dX6_blamed_51 rfl rfl ?_
        refine sx_getR dX6_blamed_52 (hs := shX_0) (k9 := 7) (hf := rfl) cb_X6 ⟨by decide, rfl, gw_299⟩ ?_
        refine sx_iload_n dX6_blamed_55 rfl rfl ?_
        obtain ⟨z4, hz4, h⟩ := sx_bd h
        refine sx_callV (o := 37) (As := [.int v2]) (rest := []) KSX (F2_blamedFor_ck l  v2 z3.2 hz4) mi_X2_blamedFor gw_662 rfl ⟨gw_663, gw_664⟩ shX_37 rfl rfl ⟨Nat.le_of_ble_eq_true rfl, Nat.le_of_ble_eq_true rfl⟩ (Nat.le_of_ble_eq_true rfl) dX6_blamed_56 rfl ?_
        obtain rfl := Option.some.inj h
        exact sx_iret dX6_blamed_59 rfl hk9
      · replace h := sx_ip h c9
        refine sx_bipush (v := (-2 : Int32)) dX6_blamed_42 (by decide) ?_
        obtain rfl := Option.some.inj h
        exact sx_iret dX6_blamed_44 rfl hk9
    · replace h := sx_ip h c9
      refine sx_locs [] rfl ?_
      exact F6_blamed_30_ok l   z2.2 h hk9
theorem F6_blamed_ck (l : Launch)  (v1 : Int32) (v2 : Int32) (q : SQ) {r : Int32 × SQ} (h : F6_blamed  v1 v2 q = some r) : CK shX vwCl KX tfX l yX6_blamed cX6_blamed 3 ((some .int)) 5 120 [.ref 0, .int v1, .int v2] q (some (.int r.1)) r.2 :=
  CK.of mi_X6_blamed (Nat.le_of_ble_eq_true rfl) (F6_blamed_ok l  v1 v2 q h ⟨rfl, rfl⟩)
