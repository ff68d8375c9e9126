theorem mi_X6_checks : sx_MI yX6_checks cX6_checks 5 ((some .int)) 1 := ⟨by decide, ⟨by decide, by decide, by decide +kernel⟩, gw_669, gw_60⟩
abbrev PF6_checks (l : Launch) (Q : Option Value → SQ → Prop) : Nat → List (Nat × Value) → List Value → SQ → Prop := XX shX vwCl KX tfX l RX6 cX6_checks 5 ((some .int)) { frames := 4, cells := 0, slots := 0, locals := 96 } Q
def F6_checks_116  (v3 : Int32) (q : SQ) : Option (Int32 × SQ) :=
  some (v3, q)
set_option maxHeartbeats 400000 in
theorem F6_checks_116_ok (l : Launch)  {Q : Option Value → SQ → Prop} (v3 : Int32) (q : SQ) {res : Int32 × SQ} (h : F6_checks_116  v3 q = some res) (hk9 : Q (some (.int res.1)) res.2) : PF6_checks l Q 116 [(3, .int v3)] [] q := by
  unfold F6_checks_116 at h
  refine sx_iload_n dX6_checks_116 rfl rfl ?_
  obtain rfl := Option.some.inj h
  exact sx_iret dX6_checks_117 rfl hk9
def F6_checks_92b  (v1 : Int32) (v2 : Int32) (v3 : Int32) (q : SQ) : Option ((Int32 × SQ) ⊕ (Int32 × SQ)) :=
  (if (10 : Int32) ≤ v3 then (F6_checks_116  v3 q).map .inr else (if ((10 : Int32) - v3) * v2 ≤ v3 * v1 then (F6_checks_116  v3 q).map .inr else sx_let (v3 + (1 : Int32)) (fun x2 => some (.inl (x2, q)))))
set_option maxHeartbeats 400000 in
theorem F6_checks_92b_ok (l : Launch)  {Q : Option Value → SQ → Prop} (v1 : Int32) (v2 : Int32) (v3 : Int32) (q : SQ) {res : (Int32 × SQ) ⊕ (Int32 × SQ)} (h : F6_checks_92b  v1 v2 v3 q = some res) (hk9 : (∀ a3, res = .inl a3 → PF6_checks l Q 92 [(1, .int v1), (2, .int v2), (3, .int a3.1)] [] a3.2) ∧ (∀ b4, res = .inr b4 → Q (some (.int b4.1)) b4.2)) : PF6_checks l Q 92 [(1, .int v1), (2, .int v2), (3, .int v3)] [] q := by
  unfold F6_checks_92b at h
  refine sx_iload_n dX6_checks_92 rfl rfl ?_
  refine sx_bipush (v := (10 : Int32)) dX6_checks_93 (by decide) ?_
  refine sx_icmp_ge (tgt := 116) dX6_checks_95 (by decide) (fun c9 => ?_) (fun c9 => ?_)
  · replace h := sx_ip h c9
    obtain ⟨t9, h, hr9⟩ := sx_mp h
    have hk9 := hk9.2 _ hr9
    refine sx_locs [2] rfl ?_
    exact F6_checks_116_ok l  v3 q h hk9
  · replace h := sx_in h c9
    refine sx_iload_n dX6_checks_98 rfl rfl ?_
    refine sx_iload_n dX6_checks_99 rfl rfl ?_
    refine sx_imul dX6_checks_100 ?_
    refine sx_bipush (v := (10 : Int32)) dX6_checks_101 (by decide) ?_
    refine sx_iload_n dX6_checks_103 rfl rfl ?_
    refine sx_isub dX6_checks_104 ?_
    refine sx_iload_n dX6_checks_105 rfl rfl ?_
    refine sx_imul dX6_checks_106 ?_
    refine sx_icmp_ge (tgt := 116) dX6_checks_107 (by decide) (fun c9 => ?_) (fun c9 => ?_)
    · replace h := sx_ip h c9
      obtain ⟨t9, h, hr9⟩ := sx_mp h
      have hk9 := hk9.2 _ hr9
      refine sx_locs [2] rfl ?_
      exact F6_checks_116_ok l  v3 q h hk9
    · replace h := sx_in h c9
      obtain ⟨x2, ex2, h⟩ := sx_lt h
      refine sx_iinc (k9 := 2) (v := x2) (ls2 := [(3, .int x2), (1, .int v1), (2, .int v2)]) dX6_checks_110 rfl (by rw [ex2, sx_ofI1]) (by decide) rfl ?_
      refine sx_goto (tgt := 92) dX6_checks_113 (by decide) ?_
      refine sx_locs [1, 2, 0] rfl ?_
      exact hk9.1 (x2, q) (Option.some.inj h).symm
def F6_checks_92  (v1 : Int32) (v2 : Int32) (v3 : Int32) (q : SQ) : Option (Int32 × SQ) := sx_loop (fun s5 => F6_checks_92b  v1 v2 s5.1 s5.2) FU (v3, q)
set_option maxHeartbeats 400000 in
theorem F6_checks_92_ok (l : Launch)  {Q : Option Value → SQ → Prop} (v1 : Int32) (v2 : Int32) (v3 : Int32) (q : SQ) {t : Int32 × SQ} (h : F6_checks_92  v1 v2 v3 q = some t) (hk9 : Q (some (.int t.1)) t.2) : PF6_checks l Q 92 [(1, .int v1), (2, .int v2), (3, .int v3)] [] q := by
  unfold F6_checks_92 at h
  have st : ∀ (s : Int32 × SQ) (res : (Int32 × SQ) ⊕ (Int32 × SQ)), F6_checks_92b  v1 v2 s.1 s.2 = some res → (∀ s2, res = .inl s2 → PF6_checks l Q 92 [(1, .int v1), (2, .int v2), (3, .int s2.1)] [] s2.2) → (∀ t2, res = .inr t2 → Q (some (.int t2.1)) t2.2) → PF6_checks l Q 92 [(1, .int v1), (2, .int v2), (3, .int s.1)] [] s.2 :=
    fun s res hb hi ho => F6_checks_92b_ok l  v1 v2 s.1 s.2 hb ⟨hi, ho⟩
  have h9 : PF6_checks l Q 92 [(1, .int v1), (2, .int v2), (3, .int v3)] [] q := sx_lp (body := fun s => F6_checks_92b  v1 v2 s.1 s.2) (P := fun s => PF6_checks l Q 92 [(1, .int v1), (2, .int v2), (3, .int s.1)] [] s.2) (T := fun t => Q (some (.int t.1)) t.2) st FU (v3, q) t h hk9
  exact h9
def F6_checks_84  (v1 : Int32) (v2 : Int32) (v3 : Int32) (q : SQ) : Option ((Int32 × Int32 × SQ) ⊕ (Int32 × SQ)) :=
  sx_let (v3 + (1 : Int32)) (fun x8 => some (.inl (v2, x8, q)))
set_option maxHeartbeats 400000 in
theorem F6_checks_84_ok (l : Launch)  {Q : Option Value → SQ → Prop} (v1 : Int32) (v2 : Int32) (v3 : Int32) (q : SQ) {res : (Int32 × Int32 × SQ) ⊕ (Int32 × SQ)} (h : F6_checks_84  v1 v2 v3 q = some res) (hk9 : (∀ a9, res = .inl a9 → PF6_checks l Q 16 [(0, .ref 0), (1, .int v1), (2, .int a9.1), (3, .int a9.2.1)] [] a9.2.2) ∧ (∀ b10, res = .inr b10 → Q (some (.int b10.1)) b10.2)) : PF6_checks l Q 84 [(0, .ref 0), (1, .int v1), (2, .int v2), (3, .int v3)] [] q := by
  unfold F6_checks_84 at h
  obtain ⟨x8, ex8, h⟩ := sx_lt h
  refine sx_iinc (k9 := 3) (v := x8) (ls2 := [(3, .int x8), (0, .ref 0), (1, .int v1), (2, .int v2)]) dX6_checks_84 rfl (by rw [ex8, sx_ofI1]) (by decide) rfl ?_
  refine sx_goto (tgt := 16) dX6_checks_87 (by decide) ?_
  refine sx_locs [1, 2, 3, 0] rfl ?_
  exact hk9.1 (v2, x8, q) (Option.some.inj h).symm
def F6_checks_16b  (v1 : Int32) (v2 : Int32) (v3 : Int32) (q : SQ) : Option ((Int32 × Int32 × SQ) ⊕ (Int32 × SQ)) :=
  (if gI q 1 0 ≤ v3 then (F6_checks_92  v1 v2 (0 : Int32) q).map .inr else (F0_choiceOf 19 1 v3 (gI q 23 0) q).bind (fun z6 => sx_let z6.1 (fun x7 => (if x7 < 0 then F6_checks_84  v1 v2 v3 z6.2 else (F4_pagesIn 1 v3 x7 z6.2).bind (fun z11 => (F4_givenOn 1 x7 (gI z11.2 19 0) z11.2).bind (fun z12 => sx_let (if v2 < z11.1 * z12.1 then z11.1 * z12.1 else v2) (fun x13 => F6_checks_84  v1 x13 v3 z12.2)))))))
set_option maxHeartbeats 400000 in
theorem F6_checks_16b_ok (l : Launch)  {Q : Option Value → SQ → Prop} (v1 : Int32) (v2 : Int32) (v3 : Int32) (q : SQ) {res : (Int32 × Int32 × SQ) ⊕ (Int32 × SQ)} (h : F6_checks_16b  v1 v2 v3 q = some res) (hk9 : (∀ a14, res = .inl a14 → PF6_checks l Q 16 [(0, .ref 0), (1, .int v1), (2, .int a14.1), (3, .int a14.2.1)] [] a14.2.2) ∧ (∀ b15, res = .inr b15 → Q (some (.int b15.1)) b15.2)) : PF6_checks l Q 16 [(0, .ref 0), (1, .int v1), (2, .int v2), (3, .int v3)] [] q := by
  unfold F6_checks_16b at h
  refine sx_iload_n dX6_checks_16 rfl rfl ?_
  refine sx_aload_n dX6_checks_17 rfl rfl ?_
  refine sx_getR dX6_checks_18 (hs := shX_0) (k9 := 0) (hf := rfl) cb_X6 ⟨by decide, rfl, gw_292⟩ ?_
  refine sx_getI dX6_checks_21 (hs := shX_1) (k9 := 0) (hf := rfl) cb_X4 ⟨by decide, rfl, gw_90⟩ ?_
  refine sx_icmp_ge (tgt := 90) dX6_checks_24 (by decide) (fun c9 => ?_) (fun c9 => ?_)
  · replace h := sx_ip h c9
    refine sx_iconst (v := (0 : Int32)) dX6_checks_90 (by decide) ?_
    refine sx_istore_n (ls2 := [(3, .int (0 : Int32)), (0, .ref 0), (1, .int v1), (2, .int v2)]) dX6_checks_91 rfl (by decide) rfl ?_
    obtain ⟨t9, h, hr9⟩ := sx_mp h
    have hk9 := hk9.2 _ hr9
    refine sx_locs [2, 3, 0] rfl ?_
    exact F6_checks_92_ok l  v1 v2 (0 : Int32) q h hk9
  · replace h := sx_in h c9
    refine sx_aload_n dX6_checks_27 rfl rfl ?_
    refine sx_getR dX6_checks_28 (hs := shX_0) (k9 := 2) (hf := rfl) cb_X6 ⟨by decide, rfl, gw_294⟩ ?_
    refine sx_aload_n dX6_checks_31 rfl rfl ?_
    refine sx_getR dX6_checks_32 (hs := shX_0) (k9 := 0) (hf := rfl) cb_X6 ⟨by decide, rfl, gw_292⟩ ?_
    refine sx_iload_n dX6_checks_35 rfl rfl ?_
    refine sx_aload_n dX6_checks_36 rfl rfl ?_
    refine sx_getR dX6_checks_37 (hs := shX_0) (k9 := 3) (hf := rfl) cb_X6 ⟨by decide, rfl, gw_295⟩ ?_
    refine sx_iconst (v := (0 : Int32)) dX6_checks_40 (by decide) ?_
    refine sx_ialdC (j9 := 0) dX6_checks_41 shX_23 (fun _ _ => rfl) (by decide) (by decide) ?_
    obtain ⟨z6, hz6, h⟩ := sx_bd h
    refine sx_callV (o := 19) (As := [.ref 1, .int v3, .int (gI q 23 0)]) (rest := []) KSX (F0_choiceOf_ck l 19 iCo_19 1 iSh_1 v3 (gI q 23 0) q hz6) mi_X0_choiceOf gw_550 rfl ⟨gw_551, gw_552⟩ shX_19 rfl rfl ⟨Nat.le_of_ble_eq_true rfl, Nat.le_of_ble_eq_true rfl⟩ (Nat.le_of_ble_eq_true rfl) dX6_checks_42 rfl ?_
    obtain ⟨x7, ex7, h⟩ := sx_lt h
    refine sx_nmI ex7 ?_
    refine sx_istore (ls2 := [(4, .int x7), (0, .ref 0), (1, .int v1), (2, .int v2), (3, .int v3)]) dX6_checks_45 (by decide) rfl ?_
    refine sx_iload dX6_checks_47 rfl ?_
    refine sx_if_lt (tgt := 84) dX6_checks_49 (by decide) (fun c9 => ?_) (fun c9 => ?_)
    · replace h := sx_ip h c9
      refine sx_locs [1, 2, 3, 4] rfl ?_
      exact F6_checks_84_ok l  v1 v2 v3 z6.2 h hk9
    · replace h := sx_in h c9
      refine sx_iload_n dX6_checks_52 rfl rfl ?_
      refine sx_aload_n dX6_checks_53 rfl rfl ?_
      refine sx_getR dX6_checks_54 (hs := shX_0) (k9 := 0) (hf := rfl) cb_X6 ⟨by decide, rfl, gw_292⟩ ?_
      refine sx_iload_n dX6_checks_57 rfl rfl ?_
      refine sx_iload dX6_checks_58 rfl ?_
      obtain ⟨z11, hz11, h⟩ := sx_bd h
      refine sx_callV (o := 1) (As := [.int v3, .int x7]) (rest := [.int v2]) KSX (F4_pagesIn_ck l 1 iSh_1 v3 x7 z6.2 hz11) mi_X4_pagesIn gw_526 rfl ⟨gw_527, gw_528⟩ shX_1 rfl rfl ⟨Nat.le_of_ble_eq_true rfl, Nat.le_of_ble_eq_true rfl⟩ (Nat.le_of_ble_eq_true rfl) dX6_checks_60 rfl ?_
      refine sx_aload_n dX6_checks_63 rfl rfl ?_
      refine sx_getR dX6_checks_64 (hs := shX_0) (k9 := 0) (hf := rfl) cb_X6 ⟨by decide, rfl, gw_292⟩ ?_
      refine sx_iload dX6_checks_67 rfl ?_
      refine sx_aload_n dX6_checks_69 rfl rfl ?_
      refine sx_getR dX6_checks_70 (hs := shX_0) (k9 := 2) (hf := rfl) cb_X6 ⟨by decide, rfl, gw_294⟩ ?_
      refine sx_getI dX6_checks_73 (hs := shX_19) (k9 := 0) (hf := rfl) cb_X0 ⟨by decide, rfl, gw_186⟩ ?_
      obtain ⟨z12, hz12, h⟩ := sx_bd h
      refine sx_callV (o := 1) (As := [.int x7, .int (gI z11.2 19 0)]) (rest := [.int z11.1, .int v2]) KSX (F4_givenOn_ck l 1 iSh_1 x7 (gI z11.2 19 0) z11.2 hz12) mi_X4_givenOn gw_518 rfl ⟨gw_519, gw_520⟩ shX_1 rfl rfl ⟨Nat.le_of_ble_eq_true rfl, Nat.le_of_ble_eq_true rfl⟩ (Nat.le_of_ble_eq_true rfl) dX6_checks_76 rfl ?_
      refine sx_imul dX6_checks_79 ?_
      refine sx_mmax dX6_checks_80 gw_645 gw_mmax (by decide) (Nat.le_of_ble_eq_true rfl) ?_
      obtain ⟨x13, ex13, h⟩ := sx_lt h
      refine sx_nmI ex13 ?_
      refine sx_istore_n (ls2 := [(2, .int x13), (4, .int x7), (0, .ref 0), (1, .int v1), (3, .int v3)]) dX6_checks_83 rfl (by decide) rfl ?_
      refine sx_locs [2, 3, 0, 4] rfl ?_
      exact F6_checks_84_ok l  v1 x13 v3 z12.2 h hk9
def F6_checks_16  (v1 : Int32) (v2 : Int32) (v3 : Int32) (q : SQ) : Option (Int32 × SQ) := sx_loop (fun s16 => F6_checks_16b  v1 s16.1 s16.2.1 s16.2.2) FU (v2, v3, q)
set_option maxHeartbeats 400000 in
theorem F6_checks_16_ok (l : Launch)  {Q : Option Value → SQ → Prop} (v1 : Int32) (v2 : Int32) (v3 : Int32) (q : SQ) {t : Int32 × SQ} (h : F6_checks_16  v1 v2 v3 q = some t) (hk9 : Q (some (.int t.1)) t.2) : PF6_checks l Q 16 [(0, .ref 0), (1, .int v1), (2, .int v2), (3, .int v3)] [] q := by
  unfold F6_checks_16 at h
  have st : ∀ (s : Int32 × Int32 × SQ) (res : (Int32 × Int32 × SQ) ⊕ (Int32 × SQ)), F6_checks_16b  v1 s.1 s.2.1 s.2.2 = some res → (∀ s2, res = .inl s2 → PF6_checks l Q 16 [(0, .ref 0), (1, .int v1), (2, .int s2.1), (3, .int s2.2.1)] [] s2.2.2) → (∀ t2, res = .inr t2 → Q (some (.int t2.1)) t2.2) → PF6_checks l Q 16 [(0, .ref 0), (1, .int v1), (2, .int s.1), (3, .int s.2.1)] [] s.2.2 :=
    fun s res hb hi ho => F6_checks_16b_ok l  v1 s.1 s.2.1 s.2.2 hb ⟨hi, ho⟩
  have h9 : PF6_checks l Q 16 [(0, .ref 0), (1, .int v1), (2, .int v2), (3, .int v3)] [] q := sx_lp (body := fun s => F6_checks_16b  v1 s.1 s.2.1 s.2.2) (P := fun s => PF6_checks l Q 16 [(0, .ref 0), (1, .int v1), (2, .int s.1), (3, .int s.2.1)] [] s.2.2) (T := fun t => Q (some (.int t.1)) t.2) st FU (v2, v3, q) t h hk9
  exact h9
def F6_checks  (v1 : Int32) (q : SQ) : Option (Int32 × SQ) :=
  (F6_within  v1 (0 : Int32) (99 : Int32) q).bind (fun z1 => (if z1.1 = 0 then some ((-1 : Int32), z1.2) else F6_checks_16  v1 (0 : Int32) (0 : Int32) z1.2))
set_option maxHeartbeats 400000 in
theorem F6_checks_ok (l : Launch)  {Q : Option Value → SQ → Prop} (v1 : Int32) (q : SQ) {res : Int32 × SQ} (h : F6_checks  v1 q = some res) (hk9 : Q (some (.int res.1)) res.2) : PF6_checks l Q 0 [(0, .ref 0), (1, .int v1)] [] q := by
  unfold F6_checks at h
  refine sx_iload_n dX6_checks_0 rfl rfl ?_
  refine sx_iconst (v := (0 : Int32)) dX6_checks_1 (by decide) ?_
  refine sx_bipush (v := (99 : Int32)) dX6_checks_2 (by decide) ?_
  obtain ⟨z1, hz1, h⟩ := sx_bd h
  refine sx_callS (As := [.int v1, .int (0 : Int32), .int (99 : Int32)]) (rest := []) KSX (F6_within_ck l  v1 (0 : Int32) (99 : Int32) q hz1) mi_X6_within gw_333 rfl gw_334 ⟨Nat.le_of_ble_eq_true rfl, Nat.le_of_ble_eq_true rfl⟩ (Nat.le_of_ble_eq_true rfl) dX6_checks_4 rfl ?_
  refine sx_if_ne (tgt := 12) dX6_checks_7 (by decide) (fun c9 => ?_) (fun c9 => ?_)
  · replace h := sx_in h c9
    refine sx_iconst (v := (0 : Int32)) dX6_checks_12 (by decide) ?_
    refine sx_istore_n (ls2 := [(2, .int (0 : Int32)), (0, .ref 0), (1, .int v1)]) dX6_checks_13 rfl (by decide) rfl ?_
    refine sx_iconst (v := (0 : Int32)) dX6_checks_14 (by decide) ?_
    refine sx_istore_n (ls2 := [(3, .int (0 : Int32)), (2, .int (0 : Int32)), (0, .ref 0), (1, .int v1)]) dX6_checks_15 rfl (by decide) rfl ?_
    refine sx_locs [2, 3, 1, 0] rfl ?_
    exact F6_checks_16_ok l  v1 (0 : Int32) (0 : Int32) z1.2 h hk9
  · replace h := sx_ip h c9
    refine sx_iconst (v := (-1 : Int32)) dX6_checks_10 (by decide) ?_
    obtain rfl := Option.some.inj h
    exact sx_iret dX6_checks_11 rfl hk9
theorem F6_checks_ck (l : Launch)  (v1 : Int32) (q : SQ) {r : Int32 × SQ} (h : F6_checks  v1 q = some r) : CK shX vwCl KX tfX l yX6_checks cX6_checks 5 ((some .int)) 4 96 [.ref 0, .int v1] q (some (.int r.1)) r.2 :=
  CK.of mi_X6_checks (Nat.le_of_ble_eq_true rfl) (F6_checks_ok l  v1 q h ⟨rfl, rfl⟩)
theorem mi_X5_note : sx_MI yX5_note cX5_note 3 ((some .boolean)) 2 := ⟨by decide, ⟨by decide, by decide, by decide +kernel⟩, gw_677, gw_65⟩
abbrev PF5_note (l : Launch) (Q : Option Value → SQ → Prop) : Nat → List (Nat × Value) → List Value → SQ → Prop := XX shX vwCl KX tfX l RX5 cX5_note 3 ((some .boolean)) { frames := 0, cells := 0, slots := 0, locals := 0 } Q
def F5_note  (v1 : Int32) (v2 : Int32) (q : SQ) : Option (Int32 × SQ) :=
  (if gI q 34 0 < (30 : Int32) then (if sx_ix (gI q 34 0) 30 = true then sx_let (sI q 35 (gI q 34 0).toNatClampNeg v1) (fun q1 => (if sx_ix (gI q1 34 0) 30 = true then sx_let (sI q1 36 (gI q1 34 0).toNatClampNeg v2) (fun q2 => sx_let (sI q2 34 0 ((gI q2 34 0) + (1 : Int32))) (fun q3 => some ((1 : Int32), q3))) else none)) else none) else some ((0 : Int32), q))
set_option maxHeartbeats 400000 in
theorem F5_note_ok (l : Launch)  {Q : Option Value → SQ → Prop} (v1 : Int32) (v2 : Int32) (q : SQ) {res : Int32 × SQ} (h : F5_note  v1 v2 q = some res) (hk9 : Q (some (.int res.1)) res.2) : PF5_note l Q 0 [(0, .ref 34), (1, .int v1), (2, .int v2)] [] q := by
  unfold F5_note at h
  refine sx_aload_n dX5_note_0 rfl rfl ?_
  refine sx_getI dX5_note_1 (hs := shX_34) (k9 := 0) (hf := rfl) cb_X5 ⟨by decide, rfl, gw_233⟩ ?_
  refine sx_bipush (v := (30 : Int32)) dX5_note_4 (by decide) ?_
  refine sx_icmp_lt (tgt := 11) dX5_note_6 (by decide) (fun c9 => ?_) (fun c9 => ?_)
  · replace h := sx_ip h c9
    refine sx_aload_n dX5_note_11 rfl rfl ?_
    refine sx_getR dX5_note_12 (hs := shX_34) (k9 := 1) (hf := rfl) cb_X5 ⟨by decide, rfl, gw_235⟩ ?_
    refine sx_aload_n dX5_note_15 rfl rfl ?_
    refine sx_getI dX5_note_16 (hs := shX_34) (k9 := 0) (hf := rfl) cb_X5 ⟨by decide, rfl, gw_233⟩ ?_
    refine sx_iload_n dX5_note_19 rfl rfl ?_
    obtain ⟨g9, h⟩ := sx_gd h
    obtain ⟨q1, eq1, h⟩ := sx_lt h
    refine sx_iast dX5_note_20 shX_35 (fun _ _ => rfl) (sx_ix_in g9) ?_
    refine sx_nmQ eq1 ?_
    refine sx_aload_n dX5_note_21 rfl rfl ?_
    refine sx_getR dX5_note_22 (hs := shX_34) (k9 := 2) (hf := rfl) cb_X5 ⟨by decide, rfl, gw_236⟩ ?_
    refine sx_aload_n dX5_note_25 rfl rfl ?_
    refine sx_getI dX5_note_26 (hs := shX_34) (k9 := 0) (hf := rfl) cb_X5 ⟨by decide, rfl, gw_233⟩ ?_
    refine sx_iload_n dX5_note_29 rfl rfl ?_
    obtain ⟨g9, h⟩ := sx_gd h
    obtain ⟨q2, eq2, h⟩ := sx_lt h
    refine sx_iast dX5_note_30 shX_36 (fun _ _ => rfl) (sx_ix_in g9) ?_
    refine sx_nmQ eq2 ?_
    refine sx_aload_n dX5_note_31 rfl rfl ?_
    refine sx_dup dX5_note_32 rfl ?_
    refine sx_getI dX5_note_33 (hs := shX_34) (k9 := 0) (hf := rfl) cb_X5 ⟨by decide, rfl, gw_233⟩ ?_
    refine sx_iconst (v := (1 : Int32)) dX5_note_36 (by decide) ?_
    refine sx_iadd dX5_note_37 ?_
    obtain ⟨q3, eq3, h⟩ := sx_lt h
    refine sx_putI dX5_note_38 (hs := shX_34) (k9 := 0) (hf := rfl) cb_X5 ⟨by decide, rfl, gw_233⟩ rfl (by decide) ?_
    refine sx_nmQ eq3 ?_
    refine sx_iconst (v := (1 : Int32)) dX5_note_41 (by decide) ?_
    obtain rfl := Option.some.inj h
    exact sx_zret dX5_note_42 rfl (by decide) hk9
  · replace h := sx_in h c9
    refine sx_iconst (v := (0 : Int32)) dX5_note_9 (by decide) ?_
    obtain rfl := Option.some.inj h
    exact sx_zret dX5_note_10 rfl (by decide) hk9
theorem F5_note_ck (l : Launch)  (v1 : Int32) (v2 : Int32) (q : SQ) {r : Int32 × SQ} (h : F5_note  v1 v2 q = some r) : CK shX vwCl KX tfX l yX5_note cX5_note 3 ((some .boolean)) 0 0 [.ref 34, .int v1, .int v2] q (some (.int r.1)) r.2 :=
  CK.of mi_X5_note (Nat.le_of_ble_eq_true rfl) (F5_note_ok l  v1 v2 q h ⟨rfl, rfl⟩)
theorem mi_X6_trial : sx_MI yX6_trial cX6_trial 3 ((some .int)) 2 := ⟨by decide, ⟨by decide, by decide, by decide +kernel⟩, gw_673, gw_60⟩
abbrev PF6_trial (l : Launch) (Q : Option Value → SQ → Prop) : Nat → List (Nat × Value) → List Value → SQ → Prop := XX shX vwCl KX tfX l RX6 cX6_trial 3 ((some .int)) { frames := 1, cells := 0, slots := 0, locals := 22 } Q
def F6_trial_21   (q : SQ) : Option (Int32 × SQ) :=
  some ((-1 : Int32), q)
set_option maxHeartbeats 400000 in
theorem F6_trial_21_ok (l : Launch)  {Q : Option Value → SQ → Prop}  (q : SQ) {res : Int32 × SQ} (h : F6_trial_21   q = some res) (hk9 : Q (some (.int res.1)) res.2) : PF6_trial l Q 21 [] [] q := by
  unfold F6_trial_21 at h
  refine sx_iconst (v := (-1 : Int32)) dX6_trial_21 (by decide) ?_
  obtain rfl := Option.some.inj h
  exact sx_iret dX6_trial_22 rfl hk9
def F6_trial  (v1 : Int32) (v2 : Int32) (q : SQ) : Option (Int32 × SQ) :=
  (F6_within  v1 (0 : Int32) (7 : Int32) q).bind (fun z1 => (if z1.1 = 0 then F6_trial_21   z1.2 else (F6_within  v2 (-99 : Int32) (99 : Int32) z1.2).bind (fun z2 => (if z2.1 = 0 then F6_trial_21   z2.2 else (F5_note  v1 v2 z2.2).bind (fun z3 => (if z3.1 = 0 then some ((-3 : Int32), z3.2) else some (gI z3.2 34 0, z3.2)))))))
set_option maxHeartbeats 400000 in
theorem F6_trial_ok (l : Launch)  {Q : Option Value → SQ → Prop} (v1 : Int32) (v2 : Int32) (q : SQ) {res : Int32 × SQ} (h : F6_trial  v1 v2 q = some res) (hk9 : Q (some (.int res.1)) res.2) : PF6_trial l Q 0 [(0, .ref 0), (1, .int v1), (2, .int v2)] [] q := by
  unfold F6_trial at h
  refine sx_iload_n dX6_trial_0 rfl rfl ?_
  refine sx_iconst (v := (0 : Int32)) dX6_trial_1 (by decide) ?_
  refine sx_bipush (v := (7 : Int32)) dX6_trial_2 (by decide) ?_
  obtain ⟨z1, hz1, h⟩ := sx_bd h
  refine sx_callS (As := [.int v1, .int (0 : Int32), .int (7 : Int32)]) (rest := []) KSX (F6_within_ck l  v1 (0 : Int32) (7 : Int32) q hz1) mi_X6_within gw_333 rfl gw_334 ⟨Nat.le_of_ble_eq_true rfl, Nat.le_of_ble_eq_true rfl⟩ (Nat.le_of_ble_eq_true rfl) dX6_trial_4 rfl ?_
  refine sx_if_eq (tgt := 21) dX6_trial_7 (by decide) (fun c9 => ?_) (fun c9 => ?_)
  · replace h := sx_ip h c9
    refine sx_locs [] rfl ?_
    exact F6_trial_21_ok l   z1.2 h hk9
  · replace h := sx_in h c9
    refine sx_iload_n dX6_trial_10 rfl rfl ?_
    refine sx_bipush (v := (-99 : Int32)) dX6_trial_11 (by decide) ?_
    refine sx_bipush (v := (99 : Int32)) dX6_trial_13 (by decide) ?_
    obtain ⟨z2, hz2, h⟩ := sx_bd h
    refine sx_callS (As := [.int v2, .int (-99 : Int32), .int (99 : Int32)]) (rest := []) KSX (F6_within_ck l  v2 (-99 : Int32) (99 : Int32) z1.2 hz2) mi_X6_within gw_333 rfl gw_334 ⟨Nat.le_of_ble_eq_true rfl, Nat.le_of_ble_eq_true rfl⟩ (Nat.le_of_ble_eq_true rfl) dX6_trial_15 rfl ?_
    refine sx_if_ne (tgt := 23) dX6_trial_18 (by decide) (fun c9 => ?_) (fun c9 => ?_)
    · replace h := sx_in h c9
      refine sx_aload_n dX6_trial_23 rfl rfl ?_
      refine sx_getR dX6_trial_24 (hs := shX_0) (k9 := 6) (hf := rfl) cb_X6 ⟨by decide, rfl, gw_298⟩ ?_
      refine sx_iload_n dX6_trial_27 rfl rfl ?_
      refine sx_iload_n dX6_trial_28 rfl rfl ?_
      obtain ⟨z3, hz3, h⟩ := sx_bd h
      refine sx_callV (o := 34) (As := [.int v1, .int v2]) (rest := []) KSX (F5_note_ck l  v1 v2 z2.2 hz3) mi_X5_note gw_674 rfl ⟨gw_675, gw_676⟩ shX_34 rfl rfl ⟨Nat.le_of_ble_eq_true rfl, Nat.le_of_ble_eq_true rfl⟩ (Nat.le_of_ble_eq_true rfl) dX6_trial_29 rfl ?_
      refine sx_if_eq (tgt := 45) dX6_trial_32 (by decide) (fun c9 => ?_) (fun c9 => ?_)
      · replace h := sx_ip h c9
        refine sx_bipush (v := (-3 : Int32)) dX6_trial_45 (by decide) ?_
        obtain rfl := Option.some.inj h
        exact sx_iret dX6_trial_47 rfl hk9
      · replace h := sx_in h c9
        refine sx_aload_n dX6_trial_35 rfl rfl ?_
        refine sx_getR dX6_trial_36 (hs := shX_0) (k9 := 6) (hf := rfl) cb_X6 ⟨by decide, rfl, gw_298⟩ ?_
        refine sx_getI dX6_trial_39 (hs := shX_34) (k9 := 0) (hf := rfl) cb_X5 ⟨by decide, rfl, gw_234⟩ ?_
        refine sx_goto (tgt := 47) dX6_trial_42 (by decide) ?_
        obtain rfl := Option.some.inj h
        exact sx_iret dX6_trial_47 rfl hk9
    · replace h := sx_ip h c9
      refine sx_locs [] rfl ?_
      exact F6_trial_21_ok l   z2.2 h hk9
theorem F6_trial_ck (l : Launch)  (v1 : Int32) (v2 : Int32) (q : SQ) {r : Int32 × SQ} (h : F6_trial  v1 v2 q = some r) : CK shX vwCl KX tfX l yX6_trial cX6_trial 3 ((some .int)) 1 22 [.ref 0, .int v1, .int v2] q (some (.int r.1)) r.2 :=
  CK.of mi_X6_trial (Nat.le_of_ble_eq_true rfl) (F6_trial_ok l  v1 v2 q h ⟨rfl, rfl⟩)
theorem mi_X5_sumOf : sx_MI yX5_sumOf cX5_sumOf 4 ((some .int)) 1 := ⟨by decide, ⟨by decide, by decide, by decide +kernel⟩, gw_690, gw_65⟩
abbrev PF5_sumOf (l : Launch) (Q : Option Value → SQ → Prop) : Nat → List (Nat × Value) → List Value → SQ → Prop := XX shX vwCl KX tfX l RX5 cX5_sumOf 4 ((some .int)) { frames := 0, cells := 0, slots := 0, locals := 0 } Q
def F5_sumOf_35  (v1 : Int32) (v2 : Int32) (v3 : Int32) (q : SQ) : Option ((Int32 × Int32 × SQ) ⊕ (Int32 × SQ)) :=
  sx_let (v3 + (1 : Int32)) (fun x1 => some (.inl (v2, x1, q)))
set_option maxHeartbeats 400000 in
theorem F5_sumOf_35_ok (l : Launch)  {Q : Option Value → SQ → Prop} (v1 : Int32) (v2 : Int32) (v3 : Int32) (q : SQ) {res : (Int32 × Int32 × SQ) ⊕ (Int32 × SQ)} (h : F5_sumOf_35  v1 v2 v3 q = some res) (hk9 : (∀ a2, res = .inl a2 → PF5_sumOf l Q 4 [(0, .ref 34), (1, .int v1), (2, .int a2.1), (3, .int a2.2.1)] [] a2.2.2) ∧ (∀ b3, res = .inr b3 → Q (some (.int b3.1)) b3.2)) : PF5_sumOf l Q 35 [(0, .ref 34), (1, .int v1), (2, .int v2), (3, .int v3)] [] q := by
  unfold F5_sumOf_35 at h
  obtain ⟨x1, ex1, h⟩ := sx_lt h
  refine sx_iinc (k9 := 3) (v := x1) (ls2 := [(3, .int x1), (0, .ref 34), (1, .int v1), (2, .int v2)]) dX5_sumOf_35 rfl (by rw [ex1, sx_ofI1]) (by decide) rfl ?_
  refine sx_goto (tgt := 4) dX5_sumOf_38 (by decide) ?_
  refine sx_locs [1, 2, 3, 0] rfl ?_
  exact hk9.1 (v2, x1, q) (Option.some.inj h).symm
def F5_sumOf_4b  (v1 : Int32) (v2 : Int32) (v3 : Int32) (q : SQ) : Option ((Int32 × Int32 × SQ) ⊕ (Int32 × SQ)) :=
  (if gI q 34 0 ≤ v3 then some (.inr (v2, q)) else (if sx_ix v3 30 = true then (if (v1 >>> (gI q 35 v3.toNatClampNeg &&& 31)) &&& (1 : Int32) = (1 : Int32) then (if sx_ix v3 30 = true then sx_let (v2 + (gI q 36 v3.toNatClampNeg)) (fun x4 => F5_sumOf_35  v1 x4 v3 q) else none) else F5_sumOf_35  v1 v2 v3 q) else none))
set_option maxHeartbeats 400000 in
theorem F5_sumOf_4b_ok (l : Launch)  {Q : Option Value → SQ → Prop} (v1 : Int32) (v2 : Int32) (v3 : Int32) (q : SQ) {res : (Int32 × Int32 × SQ) ⊕ (Int32 × SQ)} (h : F5_sumOf_4b  v1 v2 v3 q = some res) (hk9 : (∀ a5, res = .inl a5 → PF5_sumOf l Q 4 [(0, .ref 34), (1, .int v1), (2, .int a5.1), (3, .int a5.2.1)] [] a5.2.2) ∧ (∀ b6, res = .inr b6 → Q (some (.int b6.1)) b6.2)) : PF5_sumOf l Q 4 [(0, .ref 34), (1, .int v1), (2, .int v2), (3, .int v3)] [] q := by
  unfold F5_sumOf_4b at h
  refine sx_iload_n dX5_sumOf_4 rfl rfl ?_
  refine sx_aload_n dX5_sumOf_5 rfl rfl ?_
  refine sx_getI dX5_sumOf_6 (hs := shX_34) (k9 := 0) (hf := rfl) cb_X5 ⟨by decide, rfl, gw_233⟩ ?_
  refine sx_icmp_ge (tgt := 41) dX5_sumOf_9 (by decide) (fun c9 => ?_) (fun c9 => ?_)
  · replace h := sx_ip h c9
    refine sx_iload_n dX5_sumOf_41 rfl rfl ?_
    have hk9 := hk9.2 _ (Option.some.inj h).symm
    exact sx_iret dX5_sumOf_42 rfl hk9
  · replace h := sx_in h c9
    refine sx_iload_n dX5_sumOf_12 rfl rfl ?_
    refine sx_aload_n dX5_sumOf_13 rfl rfl ?_
    refine sx_getR dX5_sumOf_14 (hs := shX_34) (k9 := 1) (hf := rfl) cb_X5 ⟨by decide, rfl, gw_235⟩ ?_
    refine sx_iload_n dX5_sumOf_17 rfl rfl ?_
    obtain ⟨g9, h⟩ := sx_gd h
    refine sx_iald dX5_sumOf_18 shX_35 (fun _ _ => rfl) (sx_ix_in g9) ?_
    refine sx_ishr dX5_sumOf_19 ?_
    refine sx_iconst (v := (1 : Int32)) dX5_sumOf_20 (by decide) ?_
    refine sx_iand dX5_sumOf_21 ?_
    refine sx_iconst (v := (1 : Int32)) dX5_sumOf_22 (by decide) ?_
    refine sx_icmp_ne (tgt := 35) dX5_sumOf_23 (by decide) (fun c9 => ?_) (fun c9 => ?_)
    · replace h := sx_in h c9
      exact F5_sumOf_35_ok l  v1 v2 v3 q h hk9
    · replace h := sx_ip h c9
      refine sx_iload_n dX5_sumOf_26 rfl rfl ?_
      refine sx_aload_n dX5_sumOf_27 rfl rfl ?_
      refine sx_getR dX5_sumOf_28 (hs := shX_34) (k9 := 2) (hf := rfl) cb_X5 ⟨by decide, rfl, gw_236⟩ ?_
      refine sx_iload_n dX5_sumOf_31 rfl rfl ?_
      obtain ⟨g9, h⟩ := sx_gd h
      refine sx_iald dX5_sumOf_32 shX_36 (fun _ _ => rfl) (sx_ix_in g9) ?_
      refine sx_iadd dX5_sumOf_33 ?_
      obtain ⟨x4, ex4, h⟩ := sx_lt h
      refine sx_nmI ex4 ?_
      refine sx_istore_n (ls2 := [(2, .int x4), (0, .ref 34), (1, .int v1), (3, .int v3)]) dX5_sumOf_34 rfl (by decide) rfl ?_
      refine sx_locs [1, 2, 0, 3] rfl ?_
      exact F5_sumOf_35_ok l  v1 x4 v3 q h hk9
def F5_sumOf_4  (v1 : Int32) (v2 : Int32) (v3 : Int32) (q : SQ) : Option (Int32 × SQ) := sx_loop (fun s7 => F5_sumOf_4b  v1 s7.1 s7.2.1 s7.2.2) FU (v2, v3, q)
set_option maxHeartbeats 400000 in
theorem F5_sumOf_4_ok (l : Launch)  {Q : Option Value → SQ → Prop} (v1 : Int32) (v2 : Int32) (v3 : Int32) (q : SQ) {t : Int32 × SQ} (h : F5_sumOf_4  v1 v2 v3 q = some t) (hk9 : Q (some (.int t.1)) t.2) : PF5_sumOf l Q 4 [(0, .ref 34), (1, .int v1), (2, .int v2), (3, .int v3)] [] q := by
  unfold F5_sumOf_4 at h
  have st : ∀ (s : Int32 × Int32 × SQ) (res : (Int32 × Int32 × SQ) ⊕ (Int32 × SQ)), F5_sumOf_4b  v1 s.1 s.2.1 s.2.2 = some res → (∀ s2, res = .inl s2 → PF5_sumOf l Q 4 [(0, .ref 34), (1, .int v1), (2, .int s2.1), (3, .int s2.2.1)] [] s2.2.2) → (∀ t2, res = .inr t2 → Q (some (.int t2.1)) t2.2) → PF5_sumOf l Q 4 [(0, .ref 34), (1, .int v1), (2, .int s.1), (3, .int s.2.1)] [] s.2.2 :=
    fun s res hb hi ho => F5_sumOf_4b_ok l  v1 s.1 s.2.1 s.2.2 hb ⟨hi, ho⟩
  have h9 : PF5_sumOf l Q 4 [(0, .ref 34), (1, .int v1), (2, .int v2), (3, .int v3)] [] q := sx_lp (body := fun s => F5_sumOf_4b  v1 s.1 s.2.1 s.2.2) (P := fun s => PF5_sumOf l Q 4 [(0, .ref 34), (1, .int v1), (2, .int s.1), (3, .int s.2.1)] [] s.2.2) (T := fun t => Q (some (.int t.1)) t.2) st FU (v2, v3, q) t h hk9
  exact h9
def F5_sumOf  (v1 : Int32) (q : SQ) : Option (Int32 × SQ) :=
  F5_sumOf_4  v1 (0 : Int32) (0 : Int32) q
set_option maxHeartbeats 400000 in
theorem F5_sumOf_ok (l : Launch)  {Q : Option Value → SQ → Prop} (v1 : Int32) (q : SQ) {res : Int32 × SQ} (h : F5_sumOf  v1 q = some res) (hk9 : Q (some (.int res.1)) res.2) : PF5_sumOf l Q 0 [(0, .ref 34), (1, .int v1)] [] q := by
  unfold F5_sumOf at h
  refine sx_iconst (v := (0 : Int32)) dX5_sumOf_0 (by decide) ?_
  refine sx_istore_n (ls2 := [(2, .int (0 : Int32)), (0, .ref 34), (1, .int v1)]) dX5_sumOf_1 rfl (by decide) rfl ?_
  refine sx_iconst (v := (0 : Int32)) dX5_sumOf_2 (by decide) ?_
  refine sx_istore_n (ls2 := [(3, .int (0 : Int32)), (2, .int (0 : Int32)), (0, .ref 34), (1, .int v1)]) dX5_sumOf_3 rfl (by decide) rfl ?_
  refine sx_locs [2, 3, 1, 0] rfl ?_
  exact F5_sumOf_4_ok l  v1 (0 : Int32) (0 : Int32) q h hk9
theorem F5_sumOf_ck (l : Launch)  (v1 : Int32) (q : SQ) {r : Int32 × SQ} (h : F5_sumOf  v1 q = some r) : CK shX vwCl KX tfX l yX5_sumOf cX5_sumOf 4 ((some .int)) 0 0 [.ref 34, .int v1] q (some (.int r.1)) r.2 :=
  CK.of mi_X5_sumOf (Nat.le_of_ble_eq_true rfl) (F5_sumOf_ok l  v1 q h ⟨rfl, rfl⟩)
theorem mi_X5_manyOf : sx_MI yX5_manyOf cX5_manyOf 4 ((some .int)) 1 := ⟨by decide, ⟨by decide, by decide, by decide +kernel⟩, gw_694, gw_65⟩
abbrev PF5_manyOf (l : Launch) (Q : Option Value → SQ → Prop) : Nat → List (Nat × Value) → List Value → SQ → Prop := XX shX vwCl KX tfX l RX5 cX5_manyOf 4 ((some .int)) { frames := 0, cells := 0, slots := 0, locals := 0 } Q
def F5_manyOf_29  (v1 : Int32) (v2 : Int32) (v3 : Int32) (q : SQ) : Option ((Int32 × Int32 × SQ) ⊕ (Int32 × SQ)) :=
  sx_let (v3 + (1 : Int32)) (fun x1 => some (.inl (v2, x1, q)))
set_option maxHeartbeats 400000 in
theorem F5_manyOf_29_ok (l : Launch)  {Q : Option Value → SQ → Prop} (v1 : Int32) (v2 : Int32) (v3 : Int32) (q : SQ) {res : (Int32 × Int32 × SQ) ⊕ (Int32 × SQ)} (h : F5_manyOf_29  v1 v2 v3 q = some res) (hk9 : (∀ a2, res = .inl a2 → PF5_manyOf l Q 4 [(0, .ref 34), (1, .int v1), (2, .int a2.1), (3, .int a2.2.1)] [] a2.2.2) ∧ (∀ b3, res = .inr b3 → Q (some (.int b3.1)) b3.2)) : PF5_manyOf l Q 29 [(0, .ref 34), (1, .int v1), (2, .int v2), (3, .int v3)] [] q := by
  unfold F5_manyOf_29 at h
  obtain ⟨x1, ex1, h⟩ := sx_lt h
  refine sx_iinc (k9 := 3) (v := x1) (ls2 := [(3, .int x1), (0, .ref 34), (1, .int v1), (2, .int v2)]) dX5_manyOf_29 rfl (by rw [ex1, sx_ofI1]) (by decide) rfl ?_
  refine sx_goto (tgt := 4) dX5_manyOf_32 (by decide) ?_
  refine sx_locs [1, 2, 3, 0] rfl ?_
  exact hk9.1 (v2, x1, q) (Option.some.inj h).symm
def F5_manyOf_4b  (v1 : Int32) (v2 : Int32) (v3 : Int32) (q : SQ) : Option ((Int32 × Int32 × SQ) ⊕ (Int32 × SQ)) :=
  (if gI q 34 0 ≤ v3 then some (.inr (v2, q)) else (if sx_ix v3 30 = true then (if (v1 >>> (gI q 35 v3.toNatClampNeg &&& 31)) &&& (1 : Int32) = (1 : Int32) then sx_let (v2 + (1 : Int32)) (fun x4 => F5_manyOf_29  v1 x4 v3 q) else F5_manyOf_29  v1 v2 v3 q) else none))
set_option maxHeartbeats 400000 in
theorem F5_manyOf_4b_ok (l : Launch)  {Q : Option Value → SQ → Prop} (v1 : Int32) (v2 : Int32) (v3 : Int32) (q : SQ) {res : (Int32 × Int32 × SQ) ⊕ (Int32 × SQ)} (h : F5_manyOf_4b  v1 v2 v3 q = some res) (hk9 : (∀ a5, res = .inl a5 → PF5_manyOf l Q 4 [(0, .ref 34), (1, .int v1), (2, .int a5.1), (3, .int a5.2.1)] [] a5.2.2) ∧ (∀ b6, res = .inr b6 → Q (some (.int b6.1)) b6.2)) : PF5_manyOf l Q 4 [(0, .ref 34), (1, .int v1), (2, .int v2), (3, .int v3)] [] q := by
  unfold F5_manyOf_4b at h
  refine sx_iload_n dX5_manyOf_4 rfl rfl ?_
  refine sx_aload_n dX5_manyOf_5 rfl rfl ?_
  refine sx_getI dX5_manyOf_6 (hs := shX_34) (k9 := 0) (hf := rfl) cb_X5 ⟨by decide, rfl, gw_233⟩ ?_
  refine sx_icmp_ge (tgt := 35) dX5_manyOf_9 (by decide) (fun c9 => ?_) (fun c9 => ?_)
  · replace h := sx_ip h c9
    refine sx_iload_n dX5_manyOf_35 rfl rfl ?_
    have hk9 := hk9.2 _ (Option.some.inj h).symm
    exact sx_iret dX5_manyOf_36 rfl hk9
  · replace h := sx_in h c9
    refine sx_iload_n dX5_manyOf_12 rfl rfl ?_
    refine sx_aload_n dX5_manyOf_13 rfl rfl ?_
    refine sx_getR dX5_manyOf_14 (hs := shX_34) (k9 := 1) (hf := rfl) cb_X5 ⟨by decide, rfl, gw_235⟩ ?_
    refine sx_iload_n dX5_manyOf_17 rfl rfl ?_
    obtain ⟨g9, h⟩ := sx_gd h
    refine sx_iald dX5_manyOf_18 shX_35 (fun _ _ => rfl) (sx_ix_in g9) ?_
    refine sx_ishr dX5_manyOf_19 ?_
    refine sx_iconst (v := (1 : Int32)) dX5_manyOf_20 (by decide) ?_
    refine sx_iand dX5_manyOf_21 ?_
    refine sx_iconst (v := (1 : Int32)) dX5_manyOf_22 (by decide) ?_
    refine sx_icmp_ne (tgt := 29) dX5_manyOf_23 (by decide) (fun c9 => ?_) (fun c9 => ?_)
    · replace h := sx_in h c9
      exact F5_manyOf_29_ok l  v1 v2 v3 q h hk9
    · replace h := sx_ip h c9
      obtain ⟨x4, ex4, h⟩ := sx_lt h
      refine sx_iinc (k9 := 2) (v := x4) (ls2 := [(2, .int x4), (0, .ref 34), (1, .int v1), (3, .int v3)]) dX5_manyOf_26 rfl (by rw [ex4, sx_ofI1]) (by decide) rfl ?_
      refine sx_locs [1, 2, 0, 3] rfl ?_
      exact F5_manyOf_29_ok l  v1 x4 v3 q h hk9
def F5_manyOf_4  (v1 : Int32) (v2 : Int32) (v3 : Int32) (q : SQ) : Option (Int32 × SQ) := sx_loop (fun s7 => F5_manyOf_4b  v1 s7.1 s7.2.1 s7.2.2) FU (v2, v3, q)
set_option maxHeartbeats 400000 in
theorem F5_manyOf_4_ok (l : Launch)  {Q : Option Value → SQ → Prop} (v1 : Int32) (v2 : Int32) (v3 : Int32) (q : SQ) {t : Int32 × SQ} (h : F5_manyOf_4  v1 v2 v3 q = some t) (hk9 : Q (some (.int t.1)) t.2) : PF5_manyOf l Q 4 [(0, .ref 34), (1, .int v1), (2, .int v2), (3, .int v3)] [] q := by
  unfold F5_manyOf_4 at h
  have st : ∀ (s : Int32 × Int32 × SQ) (res : (Int32 × Int32 × SQ) ⊕ (Int32 × SQ)), F5_manyOf_4b  v1 s.1 s.2.1 s.2.2 = some res → (∀ s2, res = .inl s2 → PF5_manyOf l Q 4 [(0, .ref 34), (1, .int v1), (2, .int s2.1), (3, .int s2.2.1)] [] s2.2.2) → (∀ t2, res = .inr t2 → Q (some (.int t2.1)) t2.2) → PF5_manyOf l Q 4 [(0, .ref 34), (1, .int v1), (2, .int s.1), (3, .int s.2.1)] [] s.2.2 :=
    fun s res hb hi ho => F5_manyOf_4b_ok l  v1 s.1 s.2.1 s.2.2 hb ⟨hi, ho⟩
  have h9 : PF5_manyOf l Q 4 [(0, .ref 34), (1, .int v1), (2, .int v2), (3, .int v3)] [] q := sx_lp (body := fun s => F5_manyOf_4b  v1 s.1 s.2.1 s.2.2) (P := fun s => PF5_manyOf l Q 4 [(0, .ref 34), (1, .int v1), (2, .int s.1), (3, .int s.2.1)] [] s.2.2) (T := fun t => Q (some (.int t.1)) t.2) st FU (v2, v3, q) t h hk9
  exact h9
def F5_manyOf  (v1 : Int32) (q : SQ) : Option (Int32 × SQ) :=
  F5_manyOf_4  v1 (0 : Int32) (0 : Int32) q
set_option maxHeartbeats 400000 in
theorem F5_manyOf_ok (l : Launch)  {Q : Option Value → SQ → Prop} (v1 : Int32) (q : SQ) {res : Int32 × SQ} (h : F5_manyOf  v1 q = some res) (hk9 : Q (some (.int res.1)) res.2) : PF5_manyOf l Q 0 [(0, .ref 34), (1, .int v1)] [] q := by
  unfold F5_manyOf at h
  refine sx_iconst (v := (0 : Int32)) dX5_manyOf_0 (by decide) ?_
  refine sx_istore_n (ls2 := [(2, .int (0 : Int32)), (0, .ref 34), (1, .int v1)]) dX5_manyOf_1 rfl (by decide) rfl ?_
  refine sx_iconst (v := (0 : Int32)) dX5_manyOf_2 (by decide) ?_
  refine sx_istore_n (ls2 := [(3, .int (0 : Int32)), (2, .int (0 : Int32)), (0, .ref 34), (1, .int v1)]) dX5_manyOf_3 rfl (by decide) rfl ?_
  refine sx_locs [2, 3, 1, 0] rfl ?_
  exact F5_manyOf_4_ok l  v1 (0 : Int32) (0 : Int32) q h hk9
theorem F5_manyOf_ck (l : Launch)  (v1 : Int32) (q : SQ) {r : Int32 × SQ} (h : F5_manyOf  v1 q = some r) : CK shX vwCl KX tfX l yX5_manyOf cX5_manyOf 4 ((some .int)) 0 0 [.ref 34, .int v1] q (some (.int r.1)) r.2 :=
  CK.of mi_X5_manyOf (Nat.le_of_ble_eq_true rfl) (F5_manyOf_ok l  v1 q h ⟨rfl, rfl⟩)
theorem mi_X5_meanOf : sx_MI yX5_meanOf cX5_meanOf 7 ((some .int)) 2 := ⟨by decide, ⟨by decide, by decide, by decide +kernel⟩, gw_686, gw_65⟩
abbrev PF5_meanOf (l : Launch) (Q : Option Value → SQ → Prop) : Nat → List (Nat × Value) → List Value → SQ → Prop := XX shX vwCl KX tfX l RX5 cX5_meanOf 7 ((some .int)) { frames := 1, cells := 0, slots := 0, locals := 23 } Q
def F5_meanOf_69  (v5 : Int32) (s0 : Int32) (q : SQ) : Option (Int32 × SQ) :=
  (if sx_n0 v5 = true then some (s0 / v5, q) else none)
set_option maxHeartbeats 400000 in
theorem F5_meanOf_69_ok (l : Launch)  {Q : Option Value → SQ → Prop} (v5 : Int32) (s0 : Int32) (q : SQ) {res : Int32 × SQ} (h : F5_meanOf_69  v5 s0 q = some res) (hk9 : Q (some (.int res.1)) res.2) : PF5_meanOf l Q 69 [(5, .int v5)] [.int s0] q := by
  unfold F5_meanOf_69 at h
  refine sx_iload dX5_meanOf_69 rfl ?_
  obtain ⟨g9, h⟩ := sx_gd h
  refine sx_idiv dX5_meanOf_71 (sx_nz g9) ?_
  obtain rfl := Option.some.inj h
  exact sx_iret dX5_meanOf_72 rfl hk9
def F5_meanOf_53  (v2 : Int32) (v3 : Int32) (v4 : Int32) (v5 : Int32) (v6 : Int32) (q : SQ) : Option ((Int32 × Int32 × SQ) ⊕ (Int32 × SQ)) :=
  sx_let (v6 + (1 : Int32)) (fun x5 => some (.inl (v5, x5, q)))
set_option maxHeartbeats 400000 in
theorem F5_meanOf_53_ok (l : Launch)  {Q : Option Value → SQ → Prop} (v2 : Int32) (v3 : Int32) (v4 : Int32) (v5 : Int32) (v6 : Int32) (q : SQ) {res : (Int32 × Int32 × SQ) ⊕ (Int32 × SQ)} (h : F5_meanOf_53  v2 v3 v4 v5 v6 q = some res) (hk9 : (∀ a6, res = .inl a6 → PF5_meanOf l Q 27 [(2, .int v2), (3, .int v3), (4, .int v4), (5, .int a6.1), (6, .int a6.2.1)] [] a6.2.2) ∧ (∀ b7, res = .inr b7 → Q (some (.int b7.1)) b7.2)) : PF5_meanOf l Q 53 [(2, .int v2), (3, .int v3), (4, .int v4), (5, .int v5), (6, .int v6)] [] q := by
  unfold F5_meanOf_53 at h
  obtain ⟨x5, ex5, h⟩ := sx_lt h
  refine sx_iinc (k9 := 4) (v := x5) (ls2 := [(6, .int x5), (2, .int v2), (3, .int v3), (4, .int v4), (5, .int v5)]) dX5_meanOf_53 rfl (by rw [ex5, sx_ofI1]) (by decide) rfl ?_
  refine sx_goto (tgt := 27) dX5_meanOf_56 (by decide) ?_
  refine sx_locs [1, 2, 3, 4, 0] rfl ?_
  exact hk9.1 (v5, x5, q) (Option.some.inj h).symm
def F5_meanOf_27b  (v2 : Int32) (v3 : Int32) (v4 : Int32) (v5 : Int32) (v6 : Int32) (q : SQ) : Option ((Int32 × Int32 × SQ) ⊕ (Int32 × SQ)) :=
  (if v4 < v6 then (if v2 = 0 then (F5_meanOf_69  v5 v3 q).map .inr else (F5_meanOf_69  v5 v4 q).map .inr) else (if sx_n0 v6 = true then (if v3 - v3 / v6 * v6 = 0 then (if sx_n0 v6 = true then (if v4 - v4 / v6 * v6 = 0 then F5_meanOf_53  v2 v3 v4 v6 v6 q else F5_meanOf_53  v2 v3 v4 v5 v6 q) else none) else F5_meanOf_53  v2 v3 v4 v5 v6 q) else none))
set_option maxHeartbeats 400000 in
theorem F5_meanOf_27b_ok (l : Launch)  {Q : Option Value → SQ → Prop} (v2 : Int32) (v3 : Int32) (v4 : Int32) (v5 : Int32) (v6 : Int32) (q : SQ) {res : (Int32 × Int32 × SQ) ⊕ (Int32 × SQ)} (h : F5_meanOf_27b  v2 v3 v4 v5 v6 q = some res) (hk9 : (∀ a8, res = .inl a8 → PF5_meanOf l Q 27 [(2, .int v2), (3, .int v3), (4, .int v4), (5, .int a8.1), (6, .int a8.2.1)] [] a8.2.2) ∧ (∀ b9, res = .inr b9 → Q (some (.int b9.1)) b9.2)) : PF5_meanOf l Q 27 [(2, .int v2), (3, .int v3), (4, .int v4), (5, .int v5), (6, .int v6)] [] q := by
  unfold F5_meanOf_27b at h
  refine sx_iload dX5_meanOf_27 rfl ?_
  refine sx_iload dX5_meanOf_29 rfl ?_
  refine sx_icmp_gt (tgt := 59) dX5_meanOf_31 (by decide) (fun c9 => ?_) (fun c9 => ?_)
  · replace h := sx_ip h c9
    refine sx_iload_n dX5_meanOf_59 rfl rfl ?_
    refine sx_if_ne (tgt := 67) dX5_meanOf_60 (by decide) (fun c9 => ?_) (fun c9 => ?_)
    · replace h := sx_in h c9
      refine sx_iload dX5_meanOf_67 rfl ?_
      obtain ⟨t9, h, hr9⟩ := sx_mp h
      have hk9 := hk9.2 _ hr9
      refine sx_locs [3] rfl ?_
      exact F5_meanOf_69_ok l  v5 v4 q h hk9
    · replace h := sx_ip h c9
      refine sx_iload_n dX5_meanOf_63 rfl rfl ?_
      refine sx_goto (tgt := 69) dX5_meanOf_64 (by decide) ?_
      obtain ⟨t9, h, hr9⟩ := sx_mp h
      have hk9 := hk9.2 _ hr9
      refine sx_locs [3] rfl ?_
      exact F5_meanOf_69_ok l  v5 v3 q h hk9
  · replace h := sx_in h c9
    refine sx_iload_n dX5_meanOf_34 rfl rfl ?_
    refine sx_iload dX5_meanOf_35 rfl ?_
    obtain ⟨g9, h⟩ := sx_gd h
    refine sx_irem dX5_meanOf_37 (sx_nz g9) ?_
    refine sx_if_ne (tgt := 53) dX5_meanOf_38 (by decide) (fun c9 => ?_) (fun c9 => ?_)
    · replace h := sx_in h c9
      exact F5_meanOf_53_ok l  v2 v3 v4 v5 v6 q h hk9
    · replace h := sx_ip h c9
      refine sx_iload dX5_meanOf_41 rfl ?_
      refine sx_iload dX5_meanOf_43 rfl ?_
      obtain ⟨g9, h⟩ := sx_gd h
      refine sx_irem dX5_meanOf_45 (sx_nz g9) ?_
      refine sx_if_ne (tgt := 53) dX5_meanOf_46 (by decide) (fun c9 => ?_) (fun c9 => ?_)
      · replace h := sx_in h c9
        exact F5_meanOf_53_ok l  v2 v3 v4 v5 v6 q h hk9
      · replace h := sx_ip h c9
        refine sx_iload dX5_meanOf_49 rfl ?_
        refine sx_istore (ls2 := [(5, .int v6), (2, .int v2), (3, .int v3), (4, .int v4), (6, .int v6)]) dX5_meanOf_51 (by decide) rfl ?_
        refine sx_locs [1, 2, 3, 0, 4] rfl ?_
        exact F5_meanOf_53_ok l  v2 v3 v4 v6 v6 q h hk9
def F5_meanOf_27  (v2 : Int32) (v3 : Int32) (v4 : Int32) (v5 : Int32) (v6 : Int32) (q : SQ) : Option (Int32 × SQ) := sx_loop (fun s10 => F5_meanOf_27b  v2 v3 v4 s10.1 s10.2.1 s10.2.2) FU (v5, v6, q)
set_option maxHeartbeats 400000 in
theorem F5_meanOf_27_ok (l : Launch)  {Q : Option Value → SQ → Prop} (v2 : Int32) (v3 : Int32) (v4 : Int32) (v5 : Int32) (v6 : Int32) (q : SQ) {t : Int32 × SQ} (h : F5_meanOf_27  v2 v3 v4 v5 v6 q = some t) (hk9 : Q (some (.int t.1)) t.2) : PF5_meanOf l Q 27 [(2, .int v2), (3, .int v3), (4, .int v4), (5, .int v5), (6, .int v6)] [] q := by
  unfold F5_meanOf_27 at h
  have st : ∀ (s : Int32 × Int32 × SQ) (res : (Int32 × Int32 × SQ) ⊕ (Int32 × SQ)), F5_meanOf_27b  v2 v3 v4 s.1 s.2.1 s.2.2 = some res → (∀ s2, res = .inl s2 → PF5_meanOf l Q 27 [(2, .int v2), (3, .int v3), (4, .int v4), (5, .int s2.1), (6, .int s2.2.1)] [] s2.2.2) → (∀ t2, res = .inr t2 → Q (some (.int t2.1)) t2.2) → PF5_meanOf l Q 27 [(2, .int v2), (3, .int v3), (4, .int v4), (5, .int s.1), (6, .int s.2.1)] [] s.2.2 :=
    fun s res hb hi ho => F5_meanOf_27b_ok l  v2 v3 v4 s.1 s.2.1 s.2.2 hb ⟨hi, ho⟩
  have h9 : PF5_meanOf l Q 27 [(2, .int v2), (3, .int v3), (4, .int v4), (5, .int v5), (6, .int v6)] [] q := sx_lp (body := fun s => F5_meanOf_27b  v2 v3 v4 s.1 s.2.1 s.2.2) (P := fun s => PF5_meanOf l Q 27 [(2, .int v2), (3, .int v3), (4, .int v4), (5, .int s.1), (6, .int s.2.1)] [] s.2.2) (T := fun t => Q (some (.int t.1)) t.2) st FU (v5, v6, q) t h hk9
  exact h9
def F5_meanOf  (v1 : Int32) (v2 : Int32) (q : SQ) : Option (Int32 × SQ) :=
  (F5_sumOf  v1 q).bind (fun z1 => sx_let z1.1 (fun x2 => (F5_manyOf  v1 z1.2).bind (fun z3 => sx_let z3.1 (fun x4 => (if x4 = 0 then some ((-1000000 : Int32), z3.2) else F5_meanOf_27  v2 x2 x4 (1 : Int32) (2 : Int32) z3.2)))))
set_option maxHeartbeats 400000 in
theorem F5_meanOf_ok (l : Launch)  {Q : Option Value → SQ → Prop} (v1 : Int32) (v2 : Int32) (q : SQ) {res : Int32 × SQ} (h : F5_meanOf  v1 v2 q = some res) (hk9 : Q (some (.int res.1)) res.2) : PF5_meanOf l Q 0 [(0, .ref 34), (1, .int v1), (2, .int v2)] [] q := by
  unfold F5_meanOf at h
  refine sx_aload_n dX5_meanOf_0 rfl rfl ?_
  refine sx_iload_n dX5_meanOf_1 rfl rfl ?_
  obtain ⟨z1, hz1, h⟩ := sx_bd h
  refine sx_callV (o := 34) (As := [.int v1]) (rest := []) KSX (F5_sumOf_ck l  v1 q hz1) mi_X5_sumOf gw_687 rfl ⟨gw_689, gw_22⟩ shX_34 rfl rfl ⟨Nat.le_of_ble_eq_true rfl, Nat.le_of_ble_eq_true rfl⟩ (Nat.le_of_ble_eq_true rfl) dX5_meanOf_2 rfl ?_
  obtain ⟨x2, ex2, h⟩ := sx_lt h
  refine sx_nmI ex2 ?_
  refine sx_istore_n (ls2 := [(3, .int x2), (0, .ref 34), (1, .int v1), (2, .int v2)]) dX5_meanOf_5 rfl (by decide) rfl ?_
  refine sx_aload_n dX5_meanOf_6 rfl rfl ?_
  refine sx_iload_n dX5_meanOf_7 rfl rfl ?_
  obtain ⟨z3, hz3, h⟩ := sx_bd h
  refine sx_callV (o := 34) (As := [.int v1]) (rest := []) KSX (F5_manyOf_ck l  v1 z1.2 hz3) mi_X5_manyOf gw_691 rfl ⟨gw_692, gw_693⟩ shX_34 rfl rfl ⟨Nat.le_of_ble_eq_true rfl, Nat.le_of_ble_eq_true rfl⟩ (Nat.le_of_ble_eq_true rfl) dX5_meanOf_8 rfl ?_
  obtain ⟨x4, ex4, h⟩ := sx_lt h
  refine sx_nmI ex4 ?_
  refine sx_istore (ls2 := [(4, .int x4), (3, .int x2), (0, .ref 34), (1, .int v1), (2, .int v2)]) dX5_meanOf_11 (by decide) rfl ?_
  refine sx_iload dX5_meanOf_13 rfl ?_
  refine sx_if_ne (tgt := 21) dX5_meanOf_15 (by decide) (fun c9 => ?_) (fun c9 => ?_)
  · replace h := sx_in h c9
    refine sx_iconst (v := (1 : Int32)) dX5_meanOf_21 (by decide) ?_
    refine sx_istore (ls2 := [(5, .int (1 : Int32)), (4, .int x4), (3, .int x2), (0, .ref 34), (1, .int v1), (2, .int v2)]) dX5_meanOf_22 (by decide) rfl ?_
    refine sx_iconst (v := (2 : Int32)) dX5_meanOf_24 (by decide) ?_
    refine sx_istore (ls2 := [(6, .int (2 : Int32)), (5, .int (1 : Int32)), (4, .int x4), (3, .int x2), (0, .ref 34), (1, .int v1), (2, .int v2)]) dX5_meanOf_25 (by decide) rfl ?_
    refine sx_locs [6, 3, 2, 1, 0] rfl ?_
    exact F5_meanOf_27_ok l  v2 x2 x4 (1 : Int32) (2 : Int32) z3.2 h hk9
  · replace h := sx_ip h c9
    refine sx_ldc (v := (-1000000 : Int32)) dX5_meanOf_18 gw_695 ?_
    obtain rfl := Option.some.inj h
    exact sx_iret dX5_meanOf_20 rfl hk9
theorem F5_meanOf_ck (l : Launch)  (v1 : Int32) (v2 : Int32) (q : SQ) {r : Int32 × SQ} (h : F5_meanOf  v1 v2 q = some r) : CK shX vwCl KX tfX l yX5_meanOf cX5_meanOf 7 ((some .int)) 1 23 [.ref 34, .int v1, .int v2] q (some (.int r.1)) r.2 :=
  CK.of mi_X5_meanOf (Nat.le_of_ble_eq_true rfl) (F5_meanOf_ok l  v1 v2 q h ⟨rfl, rfl⟩)
theorem mi_X6_joined : sx_MI yX6_joined cX6_joined 3 ((some .int)) 2 := ⟨by decide, ⟨by decide, by decide, by decide +kernel⟩, gw_681, gw_60⟩
abbrev PF6_joined (l : Launch) (Q : Option Value → SQ → Prop) : Nat → List (Nat × Value) → List Value → SQ → Prop := XX shX vwCl KX tfX l RX6 cX6_joined 3 ((some .int)) { frames := 2, cells := 0, slots := 0, locals := 49 } Q
def F6_joined_20   (q : SQ) : Option (Int32 × SQ) :=
  some ((-1000000 : Int32), q)
set_option maxHeartbeats 400000 in
theorem F6_joined_20_ok (l : Launch)  {Q : Option Value → SQ → Prop}  (q : SQ) {res : Int32 × SQ} (h : F6_joined_20   q = some res) (hk9 : Q (some (.int res.1)) res.2) : PF6_joined l Q 20 [] [] q := by
  unfold F6_joined_20 at h
  refine sx_ldc (v := (-1000000 : Int32)) dX6_joined_20 gw_682 ?_
  obtain rfl := Option.some.inj h
  exact sx_iret dX6_joined_22 rfl hk9
def F6_joined  (v1 : Int32) (v2 : Int32) (q : SQ) : Option (Int32 × SQ) :=
  (F6_within  v1 (0 : Int32) (255 : Int32) q).bind (fun z1 => (if z1.1 = 0 then F6_joined_20   z1.2 else (F6_within  v2 (0 : Int32) (1 : Int32) z1.2).bind (fun z2 => (if z2.1 = 0 then F6_joined_20   z2.2 else (F5_meanOf  v1 v2 z2.2).bind (fun z3 => some (z3.1, z3.2))))))
set_option maxHeartbeats 400000 in
theorem F6_joined_ok (l : Launch)  {Q : Option Value → SQ → Prop} (v1 : Int32) (v2 : Int32) (q : SQ) {res : Int32 × SQ} (h : F6_joined  v1 v2 q = some res) (hk9 : Q (some (.int res.1)) res.2) : PF6_joined l Q 0 [(0, .ref 0), (1, .int v1), (2, .int v2)] [] q := by
  unfold F6_joined at h
  refine sx_iload_n dX6_joined_0 rfl rfl ?_
  refine sx_iconst (v := (0 : Int32)) dX6_joined_1 (by decide) ?_
  refine sx_sipush (v := (255 : Int32)) dX6_joined_2 (by decide) ?_
  obtain ⟨z1, hz1, h⟩ := sx_bd h
  refine sx_callS (As := [.int v1, .int (0 : Int32), .int (255 : Int32)]) (rest := []) KSX (F6_within_ck l  v1 (0 : Int32) (255 : Int32) q hz1) mi_X6_within gw_333 rfl gw_334 ⟨Nat.le_of_ble_eq_true rfl, Nat.le_of_ble_eq_true rfl⟩ (Nat.le_of_ble_eq_true rfl) dX6_joined_5 rfl ?_
  refine sx_if_eq (tgt := 20) dX6_joined_8 (by decide) (fun c9 => ?_) (fun c9 => ?_)
  · replace h := sx_ip h c9
    refine sx_locs [] rfl ?_
    exact F6_joined_20_ok l   z1.2 h hk9
  · replace h := sx_in h c9
    refine sx_iload_n dX6_joined_11 rfl rfl ?_
    refine sx_iconst (v := (0 : Int32)) dX6_joined_12 (by decide) ?_
    refine sx_iconst (v := (1 : Int32)) dX6_joined_13 (by decide) ?_
    obtain ⟨z2, hz2, h⟩ := sx_bd h
    refine sx_callS (As := [.int v2, .int (0 : Int32), .int (1 : Int32)]) (rest := []) KSX (F6_within_ck l  v2 (0 : Int32) (1 : Int32) z1.2 hz2) mi_X6_within gw_333 rfl gw_334 ⟨Nat.le_of_ble_eq_true rfl, Nat.le_of_ble_eq_true rfl⟩ (Nat.le_of_ble_eq_true rfl) dX6_joined_14 rfl ?_
    refine sx_if_ne (tgt := 23) dX6_joined_17 (by decide) (fun c9 => ?_) (fun c9 => ?_)
    · replace h := sx_in h c9
      refine sx_aload_n dX6_joined_23 rfl rfl ?_
      refine sx_getR dX6_joined_24 (hs := shX_0) (k9 := 6) (hf := rfl) cb_X6 ⟨by decide, rfl, gw_298⟩ ?_
      refine sx_iload_n dX6_joined_27 rfl rfl ?_
      refine sx_iload_n dX6_joined_28 rfl rfl ?_
      obtain ⟨z3, hz3, h⟩ := sx_bd h
      refine sx_callV (o := 34) (As := [.int v1, .int v2]) (rest := []) KSX (F5_meanOf_ck l  v1 v2 z2.2 hz3) mi_X5_meanOf gw_683 rfl ⟨gw_684, gw_685⟩ shX_34 rfl rfl ⟨Nat.le_of_ble_eq_true rfl, Nat.le_of_ble_eq_true rfl⟩ (Nat.le_of_ble_eq_true rfl) dX6_joined_29 rfl ?_
      obtain rfl := Option.some.inj h
      exact sx_iret dX6_joined_32 rfl hk9
    · replace h := sx_ip h c9
      refine sx_locs [] rfl ?_
      exact F6_joined_20_ok l   z2.2 h hk9
theorem F6_joined_ck (l : Launch)  (v1 : Int32) (v2 : Int32) (q : SQ) {r : Int32 × SQ} (h : F6_joined  v1 v2 q = some r) : CK shX vwCl KX tfX l yX6_joined cX6_joined 3 ((some .int)) 2 49 [.ref 0, .int v1, .int v2] q (some (.int r.1)) r.2 :=
  CK.of mi_X6_joined (Nat.le_of_ble_eq_true rfl) (F6_joined_ok l  v1 v2 q h ⟨rfl, rfl⟩)
theorem mi_X5_farthestBit : sx_MI yX5_farthestBit cX5_farthestBit 11 ((some .int)) 0 := ⟨by decide, ⟨by decide, by decide, by decide +kernel⟩, gw_703, gw_65⟩
abbrev PF5_farthestBit (l : Launch) (Q : Option Value → SQ → Prop) : Nat → List (Nat × Value) → List Value → SQ → Prop := XX shX vwCl KX tfX l RX5 cX5_farthestBit 11 ((some .int)) { frames := 1, cells := 0, slots := 0, locals := 40 } Q
def F5_farthestBit_118  (v1 : Int32) (v2 : Int32) (v3 : Int32) (v4 : Int32) (q : SQ) : Option ((Int32 × Int32 × Int32 × Int32 × SQ) ⊕ (Int32 × SQ)) :=
  sx_let (v4 + (1 : Int32)) (fun x7 => some (.inl (v1, v2, v3, x7, q)))
set_option maxHeartbeats 400000 in
theorem F5_farthestBit_118_ok (l : Launch)  {Q : Option Value → SQ → Prop} (v1 : Int32) (v2 : Int32) (v3 : Int32) (v4 : Int32) (q : SQ) {res : (Int32 × Int32 × Int32 × Int32 × SQ) ⊕ (Int32 × SQ)} (h : F5_farthestBit_118  v1 v2 v3 v4 q = some res) (hk9 : (∀ a8, res = .inl a8 → PF5_farthestBit l Q 10 [(0, .ref 34), (1, .int a8.1), (2, .int a8.2.1), (3, .int a8.2.2.1), (4, .int a8.2.2.2.1)] [] a8.2.2.2.2) ∧ (∀ b9, res = .inr b9 → Q (some (.int b9.1)) b9.2)) : PF5_farthestBit l Q 118 [(0, .ref 34), (1, .int v1), (2, .int v2), (3, .int v3), (4, .int v4)] [] q := by
  unfold F5_farthestBit_118 at h
  obtain ⟨x7, ex7, h⟩ := sx_lt h
  refine sx_iinc (k9 := 4) (v := x7) (ls2 := [(4, .int x7), (0, .ref 34), (1, .int v1), (2, .int v2), (3, .int v3)]) dX5_farthestBit_118 rfl (by rw [ex7, sx_ofI1]) (by decide) rfl ?_
  refine sx_goto (tgt := 10) dX5_farthestBit_121 (by decide) ?_
  refine sx_locs [1, 2, 3, 4, 0] rfl ?_
  exact hk9.1 (v1, v2, v3, x7, q) (Option.some.inj h).symm
def F5_farthestBit_109  (v4 : Int32) (v9 : Int32) (v10 : Int32) (q : SQ) : Option ((Int32 × Int32 × Int32 × Int32 × SQ) ⊕ (Int32 × SQ)) :=
  F5_farthestBit_118  v4 v9 v10 v4 q
set_option maxHeartbeats 400000 in
theorem F5_farthestBit_109_ok (l : Launch)  {Q : Option Value → SQ → Prop} (v4 : Int32) (v9 : Int32) (v10 : Int32) (q : SQ) {res : (Int32 × Int32 × Int32 × Int32 × SQ) ⊕ (Int32 × SQ)} (h : F5_farthestBit_109  v4 v9 v10 q = some res) (hk9 : (∀ a14, res = .inl a14 → PF5_farthestBit l Q 10 [(0, .ref 34), (1, .int a14.1), (2, .int a14.2.1), (3, .int a14.2.2.1), (4, .int a14.2.2.2.1)] [] a14.2.2.2.2) ∧ (∀ b15, res = .inr b15 → Q (some (.int b15.1)) b15.2)) : PF5_farthestBit l Q 109 [(0, .ref 34), (4, .int v4), (9, .int v9), (10, .int v10)] [] q := by
  unfold F5_farthestBit_109 at h
  refine sx_iload dX5_farthestBit_109 rfl ?_
  refine sx_istore_n (ls2 := [(1, .int v4), (0, .ref 34), (4, .int v4), (9, .int v9), (10, .int v10)]) dX5_farthestBit_111 rfl (by decide) rfl ?_
  refine sx_iload dX5_farthestBit_112 rfl ?_
  refine sx_istore_n (ls2 := [(2, .int v9), (1, .int v4), (0, .ref 34), (4, .int v4), (9, .int v9), (10, .int v10)]) dX5_farthestBit_114 rfl (by decide) rfl ?_
  refine sx_iload dX5_farthestBit_115 rfl ?_
  refine sx_istore_n (ls2 := [(3, .int v10), (2, .int v9), (1, .int v4), (0, .ref 34), (4, .int v4), (9, .int v9), (10, .int v10)]) dX5_farthestBit_117 rfl (by decide) rfl ?_
  refine sx_locs [3, 2, 1, 0, 4] rfl ?_
  exact F5_farthestBit_118_ok l  v4 v9 v10 v4 q h hk9
def F5_farthestBit_10b  (v1 : Int32) (v2 : Int32) (v3 : Int32) (v4 : Int32) (q : SQ) : Option ((Int32 × Int32 × Int32 × Int32 × SQ) ⊕ (Int32 × SQ)) :=
  (if (3 : Int32) ≤ v4 then some (.inr (v1, q)) else (if sx_ix v4 3 = true then sx_let (tWith v4.toNatClampNeg) (fun x1 => sx_let ((255 : Int32) ^^^ x1) (fun x2 => (F5_manyOf  x1 q).bind (fun z3 => sx_let z3.1 (fun x4 => (F5_manyOf  x2 z3.2).bind (fun z5 => sx_let z5.1 (fun x6 => (if x4 ≤ 0 then F5_farthestBit_118  v1 v2 v3 v4 z5.2 else (if x6 ≤ 0 then F5_farthestBit_118  v1 v2 v3 v4 z5.2 else (F5_sumOf  x1 z5.2).bind (fun z10 => (F5_sumOf  x2 z10.2).bind (fun z11 => sx_let (if 0 ≤ (z10.1 * x6) - (z11.1 * x4) then (z10.1 * x6) - (z11.1 * x4) else 0 - ((z10.1 * x6) - (z11.1 * x4))) (fun x12 => sx_let (x4 * x6) (fun x13 => (if v1 = (-9 : Int32) then F5_farthestBit_109  v4 x12 x13 z11.2 else (if x12 * v3 ≤ v2 * x13 then F5_farthestBit_118  v1 v2 v3 v4 z11.2 else F5_farthestBit_109  v4 x12 x13 z11.2)))))))))))))) else none))
set_option maxHeartbeats 400000 in
theorem F5_farthestBit_10b_ok (l : Launch)  {Q : Option Value → SQ → Prop} (v1 : Int32) (v2 : Int32) (v3 : Int32) (v4 : Int32) (q : SQ) {res : (Int32 × Int32 × Int32 × Int32 × SQ) ⊕ (Int32 × SQ)} (h : F5_farthestBit_10b  v1 v2 v3 v4 q = some res) (hk9 : (∀ a16, res = .inl a16 → PF5_farthestBit l Q 10 [(0, .ref 34), (1, .int a16.1), (2, .int a16.2.1), (3, .int a16.2.2.1), (4, .int a16.2.2.2.1)] [] a16.2.2.2.2) ∧ (∀ b17, res = .inr b17 → Q (some (.int b17.1)) b17.2)) : PF5_farthestBit l Q 10 [(0, .ref 34), (1, .int v1), (2, .int v2), (3, .int v3), (4, .int v4)] [] q := by
  unfold F5_farthestBit_10b at h
  refine sx_iload dX5_farthestBit_10 rfl ?_
  refine sx_gets_SORTS_WITH dX5_farthestBit_12 gw_704 ?_
  refine sx_talen1011 dX5_farthestBit_15 ?_
  refine sx_icmp_ge (tgt := 124) dX5_farthestBit_16 (by decide) (fun c9 => ?_) (fun c9 => ?_)
  · replace h := sx_ip h c9
    refine sx_iload_n dX5_farthestBit_124 rfl rfl ?_
    have hk9 := hk9.2 _ (Option.some.inj h).symm
    exact sx_iret dX5_farthestBit_125 rfl hk9
  · replace h := sx_in h c9
    refine sx_gets_SORTS_WITH dX5_farthestBit_19 gw_704 ?_
    refine sx_iload dX5_farthestBit_22 rfl ?_
    obtain ⟨g9, h⟩ := sx_gd h
    refine sx_tald1011 dX5_farthestBit_24 (sx_ix_in g9) ?_
    obtain ⟨x1, ex1, h⟩ := sx_lt h
    refine sx_nmI ex1 ?_
    refine sx_istore (ls2 := [(5, .int x1), (0, .ref 34), (1, .int v1), (2, .int v2), (3, .int v3), (4, .int v4)]) dX5_farthestBit_25 (by decide) rfl ?_
    refine sx_sipush (v := (255 : Int32)) dX5_farthestBit_27 (by decide) ?_
    refine sx_iload dX5_farthestBit_30 rfl ?_
    refine sx_ixor dX5_farthestBit_32 ?_
    obtain ⟨x2, ex2, h⟩ := sx_lt h
    refine sx_nmI ex2 ?_
    refine sx_istore (ls2 := [(6, .int x2), (5, .int x1), (0, .ref 34), (1, .int v1), (2, .int v2), (3, .int v3), (4, .int v4)]) dX5_farthestBit_33 (by decide) rfl ?_
    refine sx_aload_n dX5_farthestBit_35 rfl rfl ?_
    refine sx_iload dX5_farthestBit_36 rfl ?_
    obtain ⟨z3, hz3, h⟩ := sx_bd h
    refine sx_callV (o := 34) (As := [.int x1]) (rest := []) KSX (F5_manyOf_ck l  x1 q hz3) mi_X5_manyOf gw_691 rfl ⟨gw_692, gw_693⟩ shX_34 rfl rfl ⟨Nat.le_of_ble_eq_true rfl, Nat.le_of_ble_eq_true rfl⟩ (Nat.le_of_ble_eq_true rfl) dX5_farthestBit_38 rfl ?_
    obtain ⟨x4, ex4, h⟩ := sx_lt h
    refine sx_nmI ex4 ?_
    refine sx_istore (ls2 := [(7, .int x4), (6, .int x2), (5, .int x1), (0, .ref 34), (1, .int v1), (2, .int v2), (3, .int v3), (4, .int v4)]) dX5_farthestBit_41 (by decide) rfl ?_
    refine sx_aload_n dX5_farthestBit_43 rfl rfl ?_
    refine sx_iload dX5_farthestBit_44 rfl ?_
    obtain ⟨z5, hz5, h⟩ := sx_bd h
    refine sx_callV (o := 34) (As := [.int x2]) (rest := []) KSX (F5_manyOf_ck l  x2 z3.2 hz5) mi_X5_manyOf gw_691 rfl ⟨gw_692, gw_693⟩ shX_34 rfl rfl ⟨Nat.le_of_ble_eq_true rfl, Nat.le_of_ble_eq_true rfl⟩ (Nat.le_of_ble_eq_true rfl) dX5_farthestBit_46 rfl ?_
    obtain ⟨x6, ex6, h⟩ := sx_lt h
    refine sx_nmI ex6 ?_
    refine sx_istore (ls2 := [(8, .int x6), (7, .int x4), (6, .int x2), (5, .int x1), (0, .ref 34), (1, .int v1), (2, .int v2), (3, .int v3), (4, .int v4)]) dX5_farthestBit_49 (by decide) rfl ?_
    refine sx_iload dX5_farthestBit_51 rfl ?_
    refine sx_if_le (tgt := 118) dX5_farthestBit_53 (by decide) (fun c9 => ?_) (fun c9 => ?_)
    · replace h := sx_ip h c9
      refine sx_locs [4, 5, 6, 7, 8] rfl ?_
      exact F5_farthestBit_118_ok l  v1 v2 v3 v4 z5.2 h hk9
    · replace h := sx_in h c9
      refine sx_iload dX5_farthestBit_56 rfl ?_
      refine sx_if_le (tgt := 118) dX5_farthestBit_58 (by decide) (fun c9 => ?_) (fun c9 => ?_)
      · replace h := sx_ip h c9
        refine sx_locs [4, 5, 6, 7, 8] rfl ?_
        exact F5_farthestBit_118_ok l  v1 v2 v3 v4 z5.2 h hk9
      · replace h := sx_in h c9
        refine sx_aload_n dX5_farthestBit_61 rfl rfl ?_
        refine sx_iload dX5_farthestBit_62 rfl ?_
        obtain ⟨z10, hz10, h⟩ := sx_bd h
        refine sx_callV (o := 34) (As := [.int x1]) (rest := []) KSX (F5_sumOf_ck l  x1 z5.2 hz10) mi_X5_sumOf gw_687 rfl ⟨gw_689, gw_22⟩ shX_34 rfl rfl ⟨Nat.le_of_ble_eq_true rfl, Nat.le_of_ble_eq_true rfl⟩ (Nat.le_of_ble_eq_true rfl) dX5_farthestBit_64 rfl ?_
        refine sx_iload dX5_farthestBit_67 rfl ?_
        refine sx_imul dX5_farthestBit_69 ?_
        refine sx_aload_n dX5_farthestBit_70 rfl rfl ?_
        refine sx_iload dX5_farthestBit_71 rfl ?_
        obtain ⟨z11, hz11, h⟩ := sx_bd h
        refine sx_callV (o := 34) (As := [.int x2]) (rest := [.int (z10.1 * x6)]) KSX (F5_sumOf_ck l  x2 z10.2 hz11) mi_X5_sumOf gw_687 rfl ⟨gw_689, gw_22⟩ shX_34 rfl rfl ⟨Nat.le_of_ble_eq_true rfl, Nat.le_of_ble_eq_true rfl⟩ (Nat.le_of_ble_eq_true rfl) dX5_farthestBit_73 rfl ?_
        refine sx_iload dX5_farthestBit_76 rfl ?_
        refine sx_imul dX5_farthestBit_78 ?_
        refine sx_isub dX5_farthestBit_79 ?_
        refine sx_mabs dX5_farthestBit_80 gw_706 gw_mabs (by decide) (Nat.le_of_ble_eq_true rfl) ?_
        obtain ⟨x12, ex12, h⟩ := sx_lt h
        refine sx_nmI ex12 ?_
        refine sx_istore (ls2 := [(9, .int x12), (8, .int x6), (7, .int x4), (6, .int x2), (5, .int x1), (0, .ref 34), (1, .int v1), (2, .int v2), (3, .int v3), (4, .int v4)]) dX5_farthestBit_83 (by decide) rfl ?_
        refine sx_iload dX5_farthestBit_85 rfl ?_
        refine sx_iload dX5_farthestBit_87 rfl ?_
        refine sx_imul dX5_farthestBit_89 ?_
        obtain ⟨x13, ex13, h⟩ := sx_lt h
        refine sx_nmI ex13 ?_
        refine sx_istore (ls2 := [(10, .int x13), (9, .int x12), (8, .int x6), (7, .int x4), (6, .int x2), (5, .int x1), (0, .ref 34), (1, .int v1), (2, .int v2), (3, .int v3), (4, .int v4)]) dX5_farthestBit_90 (by decide) rfl ?_
        refine sx_iload_n dX5_farthestBit_92 rfl rfl ?_
        refine sx_bipush (v := (-9 : Int32)) dX5_farthestBit_93 (by decide) ?_
        refine sx_icmp_eq (tgt := 109) dX5_farthestBit_95 (by decide) (fun c9 => ?_) (fun c9 => ?_)
        · replace h := sx_ip h c9
          refine sx_locs [6, 10, 1, 0] rfl ?_
          exact F5_farthestBit_109_ok l  v4 x12 x13 z11.2 h hk9
        · replace h := sx_in h c9
          refine sx_iload dX5_farthestBit_98 rfl ?_
          refine sx_iload_n dX5_farthestBit_100 rfl rfl ?_
          refine sx_imul dX5_farthestBit_101 ?_
          refine sx_iload_n dX5_farthestBit_102 rfl rfl ?_
          refine sx_iload dX5_farthestBit_103 rfl ?_
          refine sx_imul dX5_farthestBit_105 ?_
          refine sx_icmp_le (tgt := 118) dX5_farthestBit_106 (by decide) (fun c9 => ?_) (fun c9 => ?_)
          · replace h := sx_ip h c9
            refine sx_locs [6, 7, 8, 9, 10] rfl ?_
            exact F5_farthestBit_118_ok l  v1 v2 v3 v4 z11.2 h hk9
          · replace h := sx_in h c9
            refine sx_locs [6, 10, 1, 0] rfl ?_
            exact F5_farthestBit_109_ok l  v4 x12 x13 z11.2 h hk9
def F5_farthestBit_10  (v1 : Int32) (v2 : Int32) (v3 : Int32) (v4 : Int32) (q : SQ) : Option (Int32 × SQ) := sx_loop (fun s18 => F5_farthestBit_10b  s18.1 s18.2.1 s18.2.2.1 s18.2.2.2.1 s18.2.2.2.2) FU (v1, v2, v3, v4, q)
set_option maxHeartbeats 400000 in
theorem F5_farthestBit_10_ok (l : Launch)  {Q : Option Value → SQ → Prop} (v1 : Int32) (v2 : Int32) (v3 : Int32) (v4 : Int32) (q : SQ) {t : Int32 × SQ} (h : F5_farthestBit_10  v1 v2 v3 v4 q = some t) (hk9 : Q (some (.int t.1)) t.2) : PF5_farthestBit l Q 10 [(0, .ref 34), (1, .int v1), (2, .int v2), (3, .int v3), (4, .int v4)] [] q := by
  unfold F5_farthestBit_10 at h
  have st : ∀ (s : Int32 × Int32 × Int32 × Int32 × SQ) (res : (Int32 × Int32 × Int32 × Int32 × SQ) ⊕ (Int32 × SQ)), F5_farthestBit_10b  s.1 s.2.1 s.2.2.1 s.2.2.2.1 s.2.2.2.2 = some res → (∀ s2, res = .inl s2 → PF5_farthestBit l Q 10 [(0, .ref 34), (1, .int s2.1), (2, .int s2.2.1), (3, .int s2.2.2.1), (4, .int s2.2.2.2.1)] [] s2.2.2.2.2) → (∀ t2, res = .inr t2 → Q (some (.int t2.1)) t2.2) → PF5_farthestBit l Q 10 [(0, .ref 34), (1, .int s.1), (2, .int s.2.1), (3, .int s.2.2.1), (4, .int s.2.2.2.1)] [] s.2.2.2.2 :=
    fun s res hb hi ho => F5_farthestBit_10b_ok l  s.1 s.2.1 s.2.2.1 s.2.2.2.1 s.2.2.2.2 hb ⟨hi, ho⟩
  have h9 : PF5_farthestBit l Q 10 [(0, .ref 34), (1, .int v1), (2, .int v2), (3, .int v3), (4, .int v4)] [] q := sx_lp (body := fun s => F5_farthestBit_10b  s.1 s.2.1 s.2.2.1 s.2.2.2.1 s.2.2.2.2) (P := fun s => PF5_farthestBit l Q 10 [(0, .ref 34), (1, .int s.1), (2, .int s.2.1), (3, .int s.2.2.1), (4, .int s.2.2.2.1)] [] s.2.2.2.2) (T := fun t => Q (some (.int t.1)) t.2) st FU (v1, v2, v3, v4, q) t h hk9
  exact h9
def F5_farthestBit   (q : SQ) : Option (Int32 × SQ) :=
  F5_farthestBit_10  (-9 : Int32) (0 : Int32) (1 : Int32) (0 : Int32) q
set_option maxHeartbeats 400000 in
theorem F5_farthestBit_ok (l : Launch)  {Q : Option Value → SQ → Prop}  (q : SQ) {res : Int32 × SQ} (h : F5_farthestBit   q = some res) (hk9 : Q (some (.int res.1)) res.2) : PF5_farthestBit l Q 0 [(0, .ref 34)] [] q := by
  unfold F5_farthestBit at h
  refine sx_bipush (v := (-9 : Int32)) dX5_farthestBit_0 (by decide) ?_
  refine sx_istore_n (ls2 := [(1, .int (-9 : Int32)), (0, .ref 34)]) dX5_farthestBit_2 rfl (by decide) rfl ?_
  refine sx_iconst (v := (0 : Int32)) dX5_farthestBit_3 (by decide) ?_
  refine sx_istore_n (ls2 := [(2, .int (0 : Int32)), (1, .int (-9 : Int32)), (0, .ref 34)]) dX5_farthestBit_4 rfl (by decide) rfl ?_
  refine sx_iconst (v := (1 : Int32)) dX5_farthestBit_5 (by decide) ?_
  refine sx_istore_n (ls2 := [(3, .int (1 : Int32)), (2, .int (0 : Int32)), (1, .int (-9 : Int32)), (0, .ref 34)]) dX5_farthestBit_6 rfl (by decide) rfl ?_
  refine sx_iconst (v := (0 : Int32)) dX5_farthestBit_7 (by decide) ?_
  refine sx_istore (ls2 := [(4, .int (0 : Int32)), (3, .int (1 : Int32)), (2, .int (0 : Int32)), (1, .int (-9 : Int32)), (0, .ref 34)]) dX5_farthestBit_8 (by decide) rfl ?_
  refine sx_locs [4, 3, 2, 1, 0] rfl ?_
  exact F5_farthestBit_10_ok l  (-9 : Int32) (0 : Int32) (1 : Int32) (0 : Int32) q h hk9
theorem F5_farthestBit_ck (l : Launch)   (q : SQ) {r : Int32 × SQ} (h : F5_farthestBit   q = some r) : CK shX vwCl KX tfX l yX5_farthestBit cX5_farthestBit 11 ((some .int)) 1 40 [.ref 34] q (some (.int r.1)) r.2 :=
  CK.of mi_X5_farthestBit (Nat.le_of_ble_eq_true rfl) (F5_farthestBit_ok l   q h ⟨rfl, rfl⟩)
theorem mi_X6_parts : sx_MI yX6_parts cX6_parts 1 ((some .int)) 0 := ⟨by decide, ⟨by decide, by decide, by decide +kernel⟩, gw_699, gw_60⟩
abbrev PF6_parts (l : Launch) (Q : Option Value → SQ → Prop) : Nat → List (Nat × Value) → List Value → SQ → Prop := XX shX vwCl KX tfX l RX6 cX6_parts 1 ((some .int)) { frames := 2, cells := 0, slots := 0, locals := 70 } Q
def F6_parts   (q : SQ) : Option (Int32 × SQ) :=
  (F5_farthestBit   q).bind (fun z1 => some (z1.1, z1.2))
set_option maxHeartbeats 400000 in
theorem F6_parts_ok (l : Launch)  {Q : Option Value → SQ → Prop}  (q : SQ) {res : Int32 × SQ} (h : F6_parts   q = some res) (hk9 : Q (some (.int res.1)) res.2) : PF6_parts l Q 0 [(0, .ref 0)] [] q := by
  unfold F6_parts at h
  refine sx_aload_n dX6_parts_0 rfl rfl ?_
  refine sx_getR dX6_parts_1 (hs := shX_0) (k9 := 6) (hf := rfl) cb_X6 ⟨by decide, rfl, gw_298⟩ ?_
  obtain ⟨z1, hz1, h⟩ := sx_bd h
  refine sx_callV (o := 34) (As := []) (rest := []) KSX (F5_farthestBit_ck l   q hz1) mi_X5_farthestBit gw_700 rfl ⟨gw_701, gw_702⟩ shX_34 rfl rfl ⟨Nat.le_of_ble_eq_true rfl, Nat.le_of_ble_eq_true rfl⟩ (Nat.le_of_ble_eq_true rfl) dX6_parts_4 rfl ?_
  obtain rfl := Option.some.inj h
  exact sx_iret dX6_parts_7 rfl hk9
theorem F6_parts_ck (l : Launch)   (q : SQ) {r : Int32 × SQ} (h : F6_parts   q = some r) : CK shX vwCl KX tfX l yX6_parts cX6_parts 1 ((some .int)) 2 70 [.ref 0] q (some (.int r.1)) r.2 :=
  CK.of mi_X6_parts (Nat.le_of_ble_eq_true rfl) (F6_parts_ok l   q h ⟨rfl, rfl⟩)
theorem mi_X6_ahead : sx_MI yX6_ahead cX6_ahead 4 ((some .int)) 2 := ⟨by decide, ⟨by decide, by decide, by decide +kernel⟩, gw_712, gw_60⟩
abbrev PF6_ahead (l : Launch) (Q : Option Value → SQ → Prop) : Nat → List (Nat × Value) → List Value → SQ → Prop := XX shX vwCl KX tfX l RX6 cX6_ahead 4 ((some .int)) { frames := 2, cells := 0, slots := 0, locals := 49 } Q
def F6_ahead_19   (q : SQ) : Option (Int32 × SQ) :=
  some ((-1000000 : Int32), q)
set_option maxHeartbeats 400000 in
theorem F6_ahead_19_ok (l : Launch)  {Q : Option Value → SQ → Prop}  (q : SQ) {res : Int32 × SQ} (h : F6_ahead_19   q = some res) (hk9 : Q (some (.int res.1)) res.2) : PF6_ahead l Q 19 [] [] q := by
  unfold F6_ahead_19 at h
  refine sx_ldc (v := (-1000000 : Int32)) dX6_ahead_19 gw_682 ?_
  obtain rfl := Option.some.inj h
  exact sx_iret dX6_ahead_21 rfl hk9
def F6_ahead_48  (v2 : Int32) (s0 : Int32) (q : SQ) : Option (Int32 × SQ) :=
  (F5_meanOf  s0 v2 q).bind (fun z5 => some (z5.1, z5.2))
set_option maxHeartbeats 400000 in
theorem F6_ahead_48_ok (l : Launch)  {Q : Option Value → SQ → Prop} (v2 : Int32) (s0 : Int32) (q : SQ) {res : Int32 × SQ} (h : F6_ahead_48  v2 s0 q = some res) (hk9 : Q (some (.int res.1)) res.2) : PF6_ahead l Q 48 [(2, .int v2)] [.int s0, .ref 34] q := by
  unfold F6_ahead_48 at h
  refine sx_iload_n dX6_ahead_48 rfl rfl ?_
  obtain ⟨z5, hz5, h⟩ := sx_bd h
  refine sx_callV (o := 34) (As := [.int s0, .int v2]) (rest := []) KSX (F5_meanOf_ck l  s0 v2 q hz5) mi_X5_meanOf gw_683 rfl ⟨gw_684, gw_685⟩ shX_34 rfl rfl ⟨Nat.le_of_ble_eq_true rfl, Nat.le_of_ble_eq_true rfl⟩ (Nat.le_of_ble_eq_true rfl) dX6_ahead_49 rfl ?_
  obtain rfl := Option.some.inj h
  exact sx_iret dX6_ahead_52 rfl hk9
def F6_ahead  (v1 : Int32) (v2 : Int32) (q : SQ) : Option (Int32 × SQ) :=
  (F6_within  v1 (0 : Int32) (7 : Int32) q).bind (fun z1 => (if z1.1 = 0 then F6_ahead_19   z1.2 else (F6_within  v2 (0 : Int32) (1 : Int32) z1.2).bind (fun z2 => (if z2.1 = 0 then F6_ahead_19   z2.2 else sx_let ((1 : Int32) <<< (v1 &&& 31)) (fun x3 => (F5_manyOf  x3 z2.2).bind (fun z4 => (if z4.1 ≤ 0 then F6_ahead_48  v2 (255 : Int32) z4.2 else F6_ahead_48  v2 x3 z4.2)))))))
set_option maxHeartbeats 400000 in
theorem F6_ahead_ok (l : Launch)  {Q : Option Value → SQ → Prop} (v1 : Int32) (v2 : Int32) (q : SQ) {res : Int32 × SQ} (h : F6_ahead  v1 v2 q = some res) (hk9 : Q (some (.int res.1)) res.2) : PF6_ahead l Q 0 [(0, .ref 0), (1, .int v1), (2, .int v2)] [] q := by
  unfold F6_ahead at h
  refine sx_iload_n dX6_ahead_0 rfl rfl ?_
  refine sx_iconst (v := (0 : Int32)) dX6_ahead_1 (by decide) ?_
  refine sx_bipush (v := (7 : Int32)) dX6_ahead_2 (by decide) ?_
  obtain ⟨z1, hz1, h⟩ := sx_bd h
  refine sx_callS (As := [.int v1, .int (0 : Int32), .int (7 : Int32)]) (rest := []) KSX (F6_within_ck l  v1 (0 : Int32) (7 : Int32) q hz1) mi_X6_within gw_333 rfl gw_334 ⟨Nat.le_of_ble_eq_true rfl, Nat.le_of_ble_eq_true rfl⟩ (Nat.le_of_ble_eq_true rfl) dX6_ahead_4 rfl ?_
  refine sx_if_eq (tgt := 19) dX6_ahead_7 (by decide) (fun c9 => ?_) (fun c9 => ?_)
  · replace h := sx_ip h c9
    refine sx_locs [] rfl ?_
    exact F6_ahead_19_ok l   z1.2 h hk9
  · replace h := sx_in h c9
    refine sx_iload_n dX6_ahead_10 rfl rfl ?_
    refine sx_iconst (v := (0 : Int32)) dX6_ahead_11 (by decide) ?_
    refine sx_iconst (v := (1 : Int32)) dX6_ahead_12 (by decide) ?_
    obtain ⟨z2, hz2, h⟩ := sx_bd h
    refine sx_callS (As := [.int v2, .int (0 : Int32), .int (1 : Int32)]) (rest := []) KSX (F6_within_ck l  v2 (0 : Int32) (1 : Int32) z1.2 hz2) mi_X6_within gw_333 rfl gw_334 ⟨Nat.le_of_ble_eq_true rfl, Nat.le_of_ble_eq_true rfl⟩ (Nat.le_of_ble_eq_true rfl) dX6_ahead_13 rfl ?_
    refine sx_if_ne (tgt := 22) dX6_ahead_16 (by decide) (fun c9 => ?_) (fun c9 => ?_)
    · replace h := sx_in h c9
      refine sx_iconst (v := (1 : Int32)) dX6_ahead_22 (by decide) ?_
      refine sx_iload_n dX6_ahead_23 rfl rfl ?_
      refine sx_ishl dX6_ahead_24 ?_
      obtain ⟨x3, ex3, h⟩ := sx_lt h
      refine sx_nmI ex3 ?_
      refine sx_istore_n (ls2 := [(3, .int x3), (0, .ref 0), (1, .int v1), (2, .int v2)]) dX6_ahead_25 rfl (by decide) rfl ?_
      refine sx_aload_n dX6_ahead_26 rfl rfl ?_
      refine sx_getR dX6_ahead_27 (hs := shX_0) (k9 := 6) (hf := rfl) cb_X6 ⟨by decide, rfl, gw_298⟩ ?_
      refine sx_aload_n dX6_ahead_30 rfl rfl ?_
      refine sx_getR dX6_ahead_31 (hs := shX_0) (k9 := 6) (hf := rfl) cb_X6 ⟨by decide, rfl, gw_298⟩ ?_
      refine sx_iload_n dX6_ahead_34 rfl rfl ?_
      obtain ⟨z4, hz4, h⟩ := sx_bd h
      refine sx_callV (o := 34) (As := [.int x3]) (rest := [.ref 34]) KSX (F5_manyOf_ck l  x3 z2.2 hz4) mi_X5_manyOf gw_713 rfl ⟨gw_692, gw_693⟩ shX_34 rfl rfl ⟨Nat.le_of_ble_eq_true rfl, Nat.le_of_ble_eq_true rfl⟩ (Nat.le_of_ble_eq_true rfl) dX6_ahead_35 rfl ?_
      refine sx_if_le (tgt := 45) dX6_ahead_38 (by decide) (fun c9 => ?_) (fun c9 => ?_)
      · replace h := sx_ip h c9
        refine sx_sipush (v := (255 : Int32)) dX6_ahead_45 (by decide) ?_
        refine sx_locs [3] rfl ?_
        exact F6_ahead_48_ok l  v2 (255 : Int32) z4.2 h hk9
      · replace h := sx_in h c9
        refine sx_iload_n dX6_ahead_41 rfl rfl ?_
        refine sx_goto (tgt := 48) dX6_ahead_42 (by decide) ?_
        refine sx_locs [3] rfl ?_
        exact F6_ahead_48_ok l  v2 x3 z4.2 h hk9
    · replace h := sx_ip h c9
      refine sx_locs [] rfl ?_
      exact F6_ahead_19_ok l   z2.2 h hk9
theorem F6_ahead_ck (l : Launch)  (v1 : Int32) (v2 : Int32) (q : SQ) {r : Int32 × SQ} (h : F6_ahead  v1 v2 q = some r) : CK shX vwCl KX tfX l yX6_ahead cX6_ahead 4 ((some .int)) 2 49 [.ref 0, .int v1, .int v2] q (some (.int r.1)) r.2 :=
  CK.of mi_X6_ahead (Nat.le_of_ble_eq_true rfl) (F6_ahead_ok l  v1 v2 q h ⟨rfl, rfl⟩)
theorem mi_X6_halves : sx_MI yX6_halves cX6_halves 6 ((some .int)) 1 := ⟨by decide, ⟨by decide, by decide, by decide +kernel⟩, gw_717, gw_60⟩
abbrev PF6_halves (l : Launch) (Q : Option Value → SQ → Prop) : Nat → List (Nat × Value) → List Value → SQ → Prop := XX shX vwCl KX tfX l RX6 cX6_halves 6 ((some .int)) { frames := 6, cells := 0, slots := 0, locals := 147 } Q
def F6_halves_142  (v2 : Int32) (v3 : Int32) (v4 : Int32) (v5 : Int32) (q : SQ) : Option ((Int32 × Int32 × SQ) ⊕ (Int32 × SQ)) :=
  sx_let (v5 + (1 : Int32)) (fun x5 => some (.inl (v4, x5, q)))
set_option maxHeartbeats 400000 in
theorem F6_halves_142_ok (l : Launch)  {Q : Option Value → SQ → Prop} (v2 : Int32) (v3 : Int32) (v4 : Int32) (v5 : Int32) (q : SQ) {res : (Int32 × Int32 × SQ) ⊕ (Int32 × SQ)} (h : F6_halves_142  v2 v3 v4 v5 q = some res) (hk9 : (∀ a6, res = .inl a6 → PF6_halves l Q 106 [(0, .ref 0), (2, .int v2), (3, .int v3), (4, .int a6.1), (5, .int a6.2.1)] [] a6.2.2) ∧ (∀ b7, res = .inr b7 → Q (some (.int b7.1)) b7.2)) : PF6_halves l Q 142 [(0, .ref 0), (2, .int v2), (3, .int v3), (4, .int v4), (5, .int v5)] [] q := by
  unfold F6_halves_142 at h
  obtain ⟨x5, ex5, h⟩ := sx_lt h
  refine sx_iinc (k9 := 4) (v := x5) (ls2 := [(5, .int x5), (0, .ref 0), (2, .int v2), (3, .int v3), (4, .int v4)]) dX6_halves_142 rfl (by rw [ex5, sx_ofI1]) (by decide) rfl ?_
  refine sx_goto (tgt := 106) dX6_halves_145 (by decide) ?_
  refine sx_locs [1, 2, 3, 4, 0] rfl ?_
  exact hk9.1 (v4, x5, q) (Option.some.inj h).symm
def F6_halves_106b  (v2 : Int32) (v3 : Int32) (v4 : Int32) (v5 : Int32) (q : SQ) : Option ((Int32 × Int32 × SQ) ⊕ (Int32 × SQ)) :=
  (if gI q 41 0 ≤ v5 then some (.inr (v3 - ((2 : Int32) * v4), q)) else (if (v2 >>> (v5 &&& 31)) &&& (1 : Int32) = 0 then (if sx_ix v5 8 = true then sx_let (v4 + (gI q 49 v5.toNatClampNeg)) (fun x8 => F6_halves_142  v2 v3 x8 v5 q) else none) else F6_halves_142  v2 v3 v4 v5 q))
set_option maxHeartbeats 400000 in
theorem F6_halves_106b_ok (l : Launch)  {Q : Option Value → SQ → Prop} (v2 : Int32) (v3 : Int32) (v4 : Int32) (v5 : Int32) (q : SQ) {res : (Int32 × Int32 × SQ) ⊕ (Int32 × SQ)} (h : F6_halves_106b  v2 v3 v4 v5 q = some res) (hk9 : (∀ a9, res = .inl a9 → PF6_halves l Q 106 [(0, .ref 0), (2, .int v2), (3, .int v3), (4, .int a9.1), (5, .int a9.2.1)] [] a9.2.2) ∧ (∀ b10, res = .inr b10 → Q (some (.int b10.1)) b10.2)) : PF6_halves l Q 106 [(0, .ref 0), (2, .int v2), (3, .int v3), (4, .int v4), (5, .int v5)] [] q := by
  unfold F6_halves_106b at h
  refine sx_iload dX6_halves_106 rfl ?_
  refine sx_aload_n dX6_halves_108 rfl rfl ?_
  refine sx_getR dX6_halves_109 (hs := shX_0) (k9 := 8) (hf := rfl) cb_X6 ⟨by decide, rfl, gw_300⟩ ?_
  refine sx_getI dX6_halves_112 (hs := shX_41) (k9 := 0) (hf := rfl) cb_X4 ⟨by decide, rfl, gw_90⟩ ?_
  refine sx_icmp_ge (tgt := 148) dX6_halves_115 (by decide) (fun c9 => ?_) (fun c9 => ?_)
  · replace h := sx_ip h c9
    refine sx_iload_n dX6_halves_148 rfl rfl ?_
    refine sx_iconst (v := (2 : Int32)) dX6_halves_149 (by decide) ?_
    refine sx_iload dX6_halves_150 rfl ?_
    refine sx_imul dX6_halves_152 ?_
    refine sx_isub dX6_halves_153 ?_
    have hk9 := hk9.2 _ (Option.some.inj h).symm
    exact sx_iret dX6_halves_154 rfl hk9
  · replace h := sx_in h c9
    refine sx_iload_n dX6_halves_118 rfl rfl ?_
    refine sx_iload dX6_halves_119 rfl ?_
    refine sx_ishr dX6_halves_121 ?_
    refine sx_iconst (v := (1 : Int32)) dX6_halves_122 (by decide) ?_
    refine sx_iand dX6_halves_123 ?_
    refine sx_if_ne (tgt := 142) dX6_halves_124 (by decide) (fun c9 => ?_) (fun c9 => ?_)
    · replace h := sx_in h c9
      exact F6_halves_142_ok l  v2 v3 v4 v5 q h hk9
    · replace h := sx_ip h c9
      refine sx_iload dX6_halves_127 rfl ?_
      refine sx_aload_n dX6_halves_129 rfl rfl ?_
      refine sx_getR dX6_halves_130 (hs := shX_0) (k9 := 9) (hf := rfl) cb_X6 ⟨by decide, rfl, gw_301⟩ ?_
      refine sx_getR dX6_halves_133 (hs := shX_48) (k9 := 2) (hf := rfl) cb_X0 ⟨by decide, rfl, gw_190⟩ ?_
      refine sx_iload dX6_halves_136 rfl ?_
      obtain ⟨g9, h⟩ := sx_gd h
      refine sx_iald dX6_halves_138 shX_49 (fun _ _ => rfl) (sx_ix_in g9) ?_
      refine sx_iadd dX6_halves_139 ?_
      obtain ⟨x8, ex8, h⟩ := sx_lt h
      refine sx_nmI ex8 ?_
      refine sx_istore (ls2 := [(4, .int x8), (0, .ref 0), (2, .int v2), (3, .int v3), (5, .int v5)]) dX6_halves_140 (by decide) rfl ?_
      refine sx_locs [1, 2, 3, 0, 4] rfl ?_
      exact F6_halves_142_ok l  v2 v3 x8 v5 q h hk9
def F6_halves_106  (v2 : Int32) (v3 : Int32) (v4 : Int32) (v5 : Int32) (q : SQ) : Option (Int32 × SQ) := sx_loop (fun s11 => F6_halves_106b  v2 v3 s11.1 s11.2.1 s11.2.2) FU (v4, v5, q)
set_option maxHeartbeats 400000 in
theorem F6_halves_106_ok (l : Launch)  {Q : Option Value → SQ → Prop} (v2 : Int32) (v3 : Int32) (v4 : Int32) (v5 : Int32) (q : SQ) {t : Int32 × SQ} (h : F6_halves_106  v2 v3 v4 v5 q = some t) (hk9 : Q (some (.int t.1)) t.2) : PF6_halves l Q 106 [(0, .ref 0), (2, .int v2), (3, .int v3), (4, .int v4), (5, .int v5)] [] q := by
  unfold F6_halves_106 at h
  have st : ∀ (s : Int32 × Int32 × SQ) (res : (Int32 × Int32 × SQ) ⊕ (Int32 × SQ)), F6_halves_106b  v2 v3 s.1 s.2.1 s.2.2 = some res → (∀ s2, res = .inl s2 → PF6_halves l Q 106 [(0, .ref 0), (2, .int v2), (3, .int v3), (4, .int s2.1), (5, .int s2.2.1)] [] s2.2.2) → (∀ t2, res = .inr t2 → Q (some (.int t2.1)) t2.2) → PF6_halves l Q 106 [(0, .ref 0), (2, .int v2), (3, .int v3), (4, .int s.1), (5, .int s.2.1)] [] s.2.2 :=
    fun s res hb hi ho => F6_halves_106b_ok l  v2 v3 s.1 s.2.1 s.2.2 hb ⟨hi, ho⟩
  have h9 : PF6_halves l Q 106 [(0, .ref 0), (2, .int v2), (3, .int v3), (4, .int v4), (5, .int v5)] [] q := sx_lp (body := fun s => F6_halves_106b  v2 v3 s.1 s.2.1 s.2.2) (P := fun s => PF6_halves l Q 106 [(0, .ref 0), (2, .int v2), (3, .int v3), (4, .int s.1), (5, .int s.2.1)] [] s.2.2) (T := fun t => Q (some (.int t.1)) t.2) st FU (v4, v5, q) t h hk9
  exact h9
def F6_halves_88  (v1 : Int32) (v2 : Int32) (v3 : Int32) (q : SQ) : Option ((Int32 × Int32 × SQ) ⊕ (Int32 × SQ)) :=
  sx_let (v3 + (1 : Int32)) (fun x15 => some (.inl (v2, x15, q)))
set_option maxHeartbeats 400000 in
theorem F6_halves_88_ok (l : Launch)  {Q : Option Value → SQ → Prop} (v1 : Int32) (v2 : Int32) (v3 : Int32) (q : SQ) {res : (Int32 × Int32 × SQ) ⊕ (Int32 × SQ)} (h : F6_halves_88  v1 v2 v3 q = some res) (hk9 : (∀ a16, res = .inl a16 → PF6_halves l Q 25 [(0, .ref 0), (1, .int v1), (2, .int a16.1), (3, .int a16.2.1)] [] a16.2.2) ∧ (∀ b17, res = .inr b17 → Q (some (.int b17.1)) b17.2)) : PF6_halves l Q 88 [(0, .ref 0), (1, .int v1), (2, .int v2), (3, .int v3)] [] q := by
  unfold F6_halves_88 at h
  obtain ⟨x15, ex15, h⟩ := sx_lt h
  refine sx_iinc (k9 := 3) (v := x15) (ls2 := [(3, .int x15), (0, .ref 0), (1, .int v1), (2, .int v2)]) dX6_halves_88 rfl (by rw [ex15, sx_ofI1]) (by decide) rfl ?_
  refine sx_goto (tgt := 25) dX6_halves_91 (by decide) ?_
  refine sx_locs [1, 2, 3, 0] rfl ?_
  exact hk9.1 (v2, x15, q) (Option.some.inj h).symm
def F6_halves_25b  (v1 : Int32) (v2 : Int32) (v3 : Int32) (q : SQ) : Option ((Int32 × Int32 × SQ) ⊕ (Int32 × SQ)) :=
  (if gI q 41 0 ≤ v3 then (F6_likingOn  v1 q).bind (fun z3 => sx_let z3.1 (fun x4 => (F6_halves_106  v2 x4 (0 : Int32) (0 : Int32) z3.2).map .inr)) else sx_let (sI q 0 10 (((gI q 0 10) * (1103515245 : Int32)) + (12345 : Int32))) (fun q12 => sx_let (((gI q12 0 10).toUInt32 >>> ((16 : Int32).toUInt32 &&& Int32.toUInt32 31)).toInt32) (fun x13 => (if x13 &&& (1 : Int32) = (1 : Int32) then sx_let (v2 ||| ((1 : Int32) <<< (v3 &&& 31))) (fun x18 => F6_halves_88  v1 x18 v3 q12) else (if sx_ix v3 8 = true then sx_let (sI q12 44 v3.toNatClampNeg (0 : Int32)) (fun q14 => F6_halves_88  v1 v2 v3 q14) else none)))))
set_option maxHeartbeats 400000 in
theorem F6_halves_25b_ok (l : Launch)  {Q : Option Value → SQ → Prop} (v1 : Int32) (v2 : Int32) (v3 : Int32) (q : SQ) {res : (Int32 × Int32 × SQ) ⊕ (Int32 × SQ)} (h : F6_halves_25b  v1 v2 v3 q = some res) (hk9 : (∀ a19, res = .inl a19 → PF6_halves l Q 25 [(0, .ref 0), (1, .int v1), (2, .int a19.1), (3, .int a19.2.1)] [] a19.2.2) ∧ (∀ b20, res = .inr b20 → Q (some (.int b20.1)) b20.2)) : PF6_halves l Q 25 [(0, .ref 0), (1, .int v1), (2, .int v2), (3, .int v3)] [] q := by
  unfold F6_halves_25b at h
  refine sx_iload_n dX6_halves_25 rfl rfl ?_
  refine sx_aload_n dX6_halves_26 rfl rfl ?_
  refine sx_getR dX6_halves_27 (hs := shX_0) (k9 := 8) (hf := rfl) cb_X6 ⟨by decide, rfl, gw_300⟩ ?_
  refine sx_getI dX6_halves_30 (hs := shX_41) (k9 := 0) (hf := rfl) cb_X4 ⟨by decide, rfl, gw_90⟩ ?_
  refine sx_icmp_ge (tgt := 94) dX6_halves_33 (by decide) (fun c9 => ?_) (fun c9 => ?_)
  · replace h := sx_ip h c9
    refine sx_aload_n dX6_halves_94 rfl rfl ?_
    refine sx_iload_n dX6_halves_95 rfl rfl ?_
    obtain ⟨z3, hz3, h⟩ := sx_bd h
    refine sx_callV (o := 0) (As := [.int v1]) (rest := []) KSX (F6_likingOn_ck l  v1 q hz3) mi_X6_likingOn gw_608 rfl ⟨gw_610, gw_18⟩ shX_0 rfl rfl ⟨Nat.le_of_ble_eq_true rfl, Nat.le_of_ble_eq_true rfl⟩ (Nat.le_of_ble_eq_true rfl) dX6_halves_96 rfl ?_
    obtain ⟨x4, ex4, h⟩ := sx_lt h
    refine sx_nmI ex4 ?_
    refine sx_istore_n (ls2 := [(3, .int x4), (0, .ref 0), (1, .int v1), (2, .int v2)]) dX6_halves_99 rfl (by decide) rfl ?_
    refine sx_iconst (v := (0 : Int32)) dX6_halves_100 (by decide) ?_
    refine sx_istore (ls2 := [(4, .int (0 : Int32)), (3, .int x4), (0, .ref 0), (1, .int v1), (2, .int v2)]) dX6_halves_101 (by decide) rfl ?_
    refine sx_iconst (v := (0 : Int32)) dX6_halves_103 (by decide) ?_
    refine sx_istore (ls2 := [(5, .int (0 : Int32)), (4, .int (0 : Int32)), (3, .int x4), (0, .ref 0), (1, .int v1), (2, .int v2)]) dX6_halves_104 (by decide) rfl ?_
    obtain ⟨t9, h, hr9⟩ := sx_mp h
    have hk9 := hk9.2 _ hr9
    refine sx_locs [3, 5, 2, 1, 0] rfl ?_
    exact F6_halves_106_ok l  v2 x4 (0 : Int32) (0 : Int32) z3.2 h hk9
  · replace h := sx_in h c9
    refine sx_aload_n dX6_halves_36 rfl rfl ?_
    refine sx_aload_n dX6_halves_37 rfl rfl ?_
    refine sx_getI dX6_halves_38 (hs := shX_0) (k9 := 10) (hf := rfl) cb_X6 ⟨by decide, rfl, gw_302⟩ ?_
    refine sx_ldcw (v := (1103515245 : Int32)) dX6_halves_41 gw_718 ?_
    refine sx_imul dX6_halves_44 ?_
    refine sx_sipush (v := (12345 : Int32)) dX6_halves_45 (by decide) ?_
    refine sx_iadd dX6_halves_48 ?_
    obtain ⟨q12, eq12, h⟩ := sx_lt h
    refine sx_putI dX6_halves_49 (hs := shX_0) (k9 := 10) (hf := rfl) cb_X6 ⟨by decide, rfl, gw_302⟩ rfl (by decide) ?_
    refine sx_nmQ eq12 ?_
    refine sx_aload_n dX6_halves_52 rfl rfl ?_
    refine sx_getI dX6_halves_53 (hs := shX_0) (k9 := 10) (hf := rfl) cb_X6 ⟨by decide, rfl, gw_302⟩ ?_
    refine sx_bipush (v := (16 : Int32)) dX6_halves_56 (by decide) ?_
    refine sx_iushr dX6_halves_58 ?_
    obtain ⟨x13, ex13, h⟩ := sx_lt h
    refine sx_nmI ex13 ?_
    refine sx_istore (ls2 := [(4, .int x13), (0, .ref 0), (1, .int v1), (2, .int v2), (3, .int v3)]) dX6_halves_59 (by decide) rfl ?_
    refine sx_iload dX6_halves_61 rfl ?_
    refine sx_iconst (v := (1 : Int32)) dX6_halves_63 (by decide) ?_
    refine sx_iand dX6_halves_64 ?_
    refine sx_iconst (v := (1 : Int32)) dX6_halves_65 (by decide) ?_
    refine sx_icmp_ne (tgt := 78) dX6_halves_66 (by decide) (fun c9 => ?_) (fun c9 => ?_)
    · replace h := sx_in h c9
      refine sx_aload_n dX6_halves_78 rfl rfl ?_
      refine sx_getR dX6_halves_79 (hs := shX_0) (k9 := 8) (hf := rfl) cb_X6 ⟨by decide, rfl, gw_300⟩ ?_
      refine sx_getR dX6_halves_82 (hs := shX_41) (k9 := 4) (hf := rfl) cb_X4 ⟨by decide, rfl, gw_102⟩ ?_
      refine sx_iload_n dX6_halves_85 rfl rfl ?_
      refine sx_iconst (v := (0 : Int32)) dX6_halves_86 (by decide) ?_
      obtain ⟨g9, h⟩ := sx_gd h
      obtain ⟨q14, eq14, h⟩ := sx_lt h
      refine sx_iast dX6_halves_87 shX_44 (fun _ _ => rfl) (sx_ix_in g9) ?_
      refine sx_nmQ eq14 ?_
      refine sx_locs [1, 2, 3, 4] rfl ?_
      exact F6_halves_88_ok l  v1 v2 v3 q14 h hk9
    · replace h := sx_ip h c9
      refine sx_iload_n dX6_halves_69 rfl rfl ?_
      refine sx_iconst (v := (1 : Int32)) dX6_halves_70 (by decide) ?_
      refine sx_iload_n dX6_halves_71 rfl rfl ?_
      refine sx_ishl dX6_halves_72 ?_
      refine sx_ior dX6_halves_73 ?_
      obtain ⟨x18, ex18, h⟩ := sx_lt h
      refine sx_nmI ex18 ?_
      refine sx_istore_n (ls2 := [(2, .int x18), (4, .int x13), (0, .ref 0), (1, .int v1), (3, .int v3)]) dX6_halves_74 rfl (by decide) rfl ?_
      refine sx_goto (tgt := 88) dX6_halves_75 (by decide) ?_
      refine sx_locs [2, 3, 0, 4] rfl ?_
      exact F6_halves_88_ok l  v1 x18 v3 q12 h hk9
def F6_halves_25  (v1 : Int32) (v2 : Int32) (v3 : Int32) (q : SQ) : Option (Int32 × SQ) := sx_loop (fun s21 => F6_halves_25b  v1 s21.1 s21.2.1 s21.2.2) FU (v2, v3, q)
set_option maxHeartbeats 400000 in
theorem F6_halves_25_ok (l : Launch)  {Q : Option Value → SQ → Prop} (v1 : Int32) (v2 : Int32) (v3 : Int32) (q : SQ) {t : Int32 × SQ} (h : F6_halves_25  v1 v2 v3 q = some t) (hk9 : Q (some (.int t.1)) t.2) : PF6_halves l Q 25 [(0, .ref 0), (1, .int v1), (2, .int v2), (3, .int v3)] [] q := by
  unfold F6_halves_25 at h
  have st : ∀ (s : Int32 × Int32 × SQ) (res : (Int32 × Int32 × SQ) ⊕ (Int32 × SQ)), F6_halves_25b  v1 s.1 s.2.1 s.2.2 = some res → (∀ s2, res = .inl s2 → PF6_halves l Q 25 [(0, .ref 0), (1, .int v1), (2, .int s2.1), (3, .int s2.2.1)] [] s2.2.2) → (∀ t2, res = .inr t2 → Q (some (.int t2.1)) t2.2) → PF6_halves l Q 25 [(0, .ref 0), (1, .int v1), (2, .int s.1), (3, .int s.2.1)] [] s.2.2 :=
    fun s res hb hi ho => F6_halves_25b_ok l  v1 s.1 s.2.1 s.2.2 hb ⟨hi, ho⟩
  have h9 : PF6_halves l Q 25 [(0, .ref 0), (1, .int v1), (2, .int v2), (3, .int v3)] [] q := sx_lp (body := fun s => F6_halves_25b  v1 s.1 s.2.1 s.2.2) (P := fun s => PF6_halves l Q 25 [(0, .ref 0), (1, .int v1), (2, .int s.1), (3, .int s.2.1)] [] s.2.2) (T := fun t => Q (some (.int t.1)) t.2) st FU (v2, v3, q) t h hk9
  exact h9
def F6_halves  (v1 : Int32) (q : SQ) : Option (Int32 × SQ) :=
  (F6_isDay  v1 q).bind (fun z1 => (if z1.1 = 0 then some ((-1000000 : Int32), z1.2) else (F4_copyOf 41 1  z1.2).bind (fun z2 => F6_halves_25  v1 (0 : Int32) (0 : Int32) z2.2)))
set_option maxHeartbeats 400000 in
theorem F6_halves_ok (l : Launch)  {Q : Option Value → SQ → Prop} (v1 : Int32) (q : SQ) {res : Int32 × SQ} (h : F6_halves  v1 q = some res) (hk9 : Q (some (.int res.1)) res.2) : PF6_halves l Q 0 [(0, .ref 0), (1, .int v1)] [] q := by
  unfold F6_halves at h
  refine sx_iload_n dX6_halves_0 rfl rfl ?_
  obtain ⟨z1, hz1, h⟩ := sx_bd h
  refine sx_callS (As := [.int v1]) (rest := []) KSX (F6_isDay_ck l  v1 q hz1) mi_X6_isDay gw_515 rfl gw_516 ⟨Nat.le_of_ble_eq_true rfl, Nat.le_of_ble_eq_true rfl⟩ (Nat.le_of_ble_eq_true rfl) dX6_halves_1 rfl ?_
  refine sx_if_ne (tgt := 10) dX6_halves_4 (by decide) (fun c9 => ?_) (fun c9 => ?_)
  · replace h := sx_in h c9
    refine sx_aload_n dX6_halves_10 rfl rfl ?_
    refine sx_getR dX6_halves_11 (hs := shX_0) (k9 := 8) (hf := rfl) cb_X6 ⟨by decide, rfl, gw_300⟩ ?_
    refine sx_aload_n dX6_halves_14 rfl rfl ?_
    refine sx_getR dX6_halves_15 (hs := shX_0) (k9 := 0) (hf := rfl) cb_X6 ⟨by decide, rfl, gw_292⟩ ?_
    obtain ⟨z2, hz2, h⟩ := sx_bd h
    refine sx_callV (o := 41) (As := [.ref 1]) (rest := []) KSX (F4_copyOf_ck l 41 iSh_41 1 iSh_1  z1.2 hz2) mi_X4_copyOf gw_479 rfl ⟨gw_480, gw_481⟩ shX_41 rfl rfl ⟨Nat.le_of_ble_eq_true rfl, Nat.le_of_ble_eq_true rfl⟩ (Nat.le_of_ble_eq_true rfl) dX6_halves_18 rfl ?_
    refine sx_iconst (v := (0 : Int32)) dX6_halves_21 (by decide) ?_
    refine sx_istore_n (ls2 := [(2, .int (0 : Int32)), (0, .ref 0), (1, .int v1)]) dX6_halves_22 rfl (by decide) rfl ?_
    refine sx_iconst (v := (0 : Int32)) dX6_halves_23 (by decide) ?_
    refine sx_istore_n (ls2 := [(3, .int (0 : Int32)), (2, .int (0 : Int32)), (0, .ref 0), (1, .int v1)]) dX6_halves_24 rfl (by decide) rfl ?_
    refine sx_locs [2, 3, 1, 0] rfl ?_
    exact F6_halves_25_ok l  v1 (0 : Int32) (0 : Int32) z2.2 h hk9
  · replace h := sx_ip h c9
    refine sx_ldc (v := (-1000000 : Int32)) dX6_halves_7 gw_682 ?_
    obtain rfl := Option.some.inj h
    exact sx_iret dX6_halves_9 rfl hk9
theorem F6_halves_ck (l : Launch)  (v1 : Int32) (q : SQ) {r : Int32 × SQ} (h : F6_halves  v1 q = some r) : CK shX vwCl KX tfX l yX6_halves cX6_halves 6 ((some .int)) 6 147 [.ref 0, .int v1] q (some (.int r.1)) r.2 :=
  CK.of mi_X6_halves (Nat.le_of_ble_eq_true rfl) (F6_halves_ok l  v1 q h ⟨rfl, rfl⟩)
theorem mi_X6_lot : sx_MI yX6_lot cX6_lot 3 ((some .int)) 1 := ⟨by decide, ⟨by decide, by decide, by decide +kernel⟩, gw_722, gw_60⟩
abbrev PF6_lot (l : Launch) (Q : Option Value → SQ → Prop) : Nat → List (Nat × Value) → List Value → SQ → Prop := XX shX vwCl KX tfX l RX6 cX6_lot 3 ((some .int)) { frames := 0, cells := 0, slots := 0, locals := 0 } Q
def F6_lot  (v1 : Int32) (q : SQ) : Option (Int32 × SQ) :=
  sx_let (gI q 0 10) (fun x1 => sx_let (sI q 0 10 v1) (fun q2 => some (x1, q2)))
set_option maxHeartbeats 400000 in
theorem F6_lot_ok (l : Launch)  {Q : Option Value → SQ → Prop} (v1 : Int32) (q : SQ) {res : Int32 × SQ} (h : F6_lot  v1 q = some res) (hk9 : Q (some (.int res.1)) res.2) : PF6_lot l Q 0 [(0, .ref 0), (1, .int v1)] [] q := by
  unfold F6_lot at h
  refine sx_aload_n dX6_lot_0 rfl rfl ?_
  refine sx_getI dX6_lot_1 (hs := shX_0) (k9 := 10) (hf := rfl) cb_X6 ⟨by decide, rfl, gw_302⟩ ?_
  obtain ⟨x1, ex1, h⟩ := sx_lt h
  refine sx_nmI ex1 ?_
  refine sx_istore_n (ls2 := [(2, .int x1), (0, .ref 0), (1, .int v1)]) dX6_lot_4 rfl (by decide) rfl ?_
  refine sx_aload_n dX6_lot_5 rfl rfl ?_
  refine sx_iload_n dX6_lot_6 rfl rfl ?_
  obtain ⟨q2, eq2, h⟩ := sx_lt h
  refine sx_putI dX6_lot_7 (hs := shX_0) (k9 := 10) (hf := rfl) cb_X6 ⟨by decide, rfl, gw_302⟩ rfl (by decide) ?_
  refine sx_nmQ eq2 ?_
  refine sx_iload_n dX6_lot_10 rfl rfl ?_
  obtain rfl := Option.some.inj h
  exact sx_iret dX6_lot_11 rfl hk9
theorem F6_lot_ck (l : Launch)  (v1 : Int32) (q : SQ) {r : Int32 × SQ} (h : F6_lot  v1 q = some r) : CK shX vwCl KX tfX l yX6_lot cX6_lot 3 ((some .int)) 0 0 [.ref 0, .int v1] q (some (.int r.1)) r.2 :=
  CK.of mi_X6_lot (Nat.le_of_ble_eq_true rfl) (F6_lot_ok l  v1 q h ⟨rfl, rfl⟩)
