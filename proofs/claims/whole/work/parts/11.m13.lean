theorem mi_X7_rate : sx_MI yX7_rate cX7_rate 6 ((some .int)) 2 := ⟨by decide, ⟨by decide, by decide, by decide +kernel⟩, gw_1109, gw_68⟩
abbrev PF7_rate (l : Launch) (Q : Option Value → SQ → Prop) : Nat → List (Nat × Value) → List Value → SQ → Prop := XX shM vwCl KM tfM l RX7 cX7_rate 6 ((some .int)) { frames := 2, cells := 0, slots := 0, locals := 43 } Q
def F7_rate_22   (q : SQ) : Option (Int32 × SQ) :=
  some ((-1000000 : Int32), q)
set_option maxHeartbeats 400000 in
theorem F7_rate_22_ok (l : Launch)  {Q : Option Value → SQ → Prop}  (q : SQ) {res : Int32 × SQ} (h : F7_rate_22   q = some res) (hk9 : Q (some (.int res.1)) res.2) : PF7_rate l Q 22 [] [] q := by
  unfold F7_rate_22 at h
  refine sx_ldc (v := (-1000000 : Int32)) dX7_rate_22 gw_1085 ?_
  obtain rfl := Option.some.inj h
  exact sx_iret dX7_rate_24 rfl hk9
def F7_rate_129  (v1 : Int32) (v3 : Int32) (v4 : Int32) (v5 : Int32) (s0 : Int64) (s1 : Int64) (q : SQ) : Option (Int32 × SQ) :=
  sx_let (sL q 0 1 (s1 + s0)) (fun q7 => (if v1 = 0 then some (v4, q7) else (if v1 = (1 : Int32) then some (v4 - v3, q7) else (if v1 = (2 : Int32) then some (v4 + v3, q7) else (if v1 = (3 : Int32) then some (v5, q7) else (if v1 = (4 : Int32) then some ((2 : Int32) * v5, q7) else some (v4 + (gI q7 4 1), q7)))))))
set_option maxHeartbeats 400000 in
theorem F7_rate_129_ok (l : Launch)  {Q : Option Value → SQ → Prop} (v1 : Int32) (v3 : Int32) (v4 : Int32) (v5 : Int32) (s0 : Int64) (s1 : Int64) (q : SQ) {res : Int32 × SQ} (h : F7_rate_129  v1 v3 v4 v5 s0 s1 q = some res) (hk9 : Q (some (.int res.1)) res.2) : PF7_rate l Q 129 [(0, .ref 0), (1, .int v1), (3, .int v3), (4, .int v4), (5, .int v5)] [.long s0, .long s1, .ref 0] q := by
  unfold F7_rate_129 at h
  refine sx_ladd dX7_rate_129 ?_
  obtain ⟨q7, eq7, h⟩ := sx_lt h
  refine sx_putL dX7_rate_130 (hs := shM_0) (k9 := 1) (hf := rfl) cb_X7 ⟨by decide, rfl, gw_800⟩ rfl (by decide) ?_
  refine sx_nmQ eq7 ?_
  refine sx_iload_n dX7_rate_133 rfl rfl ?_
  refine sx_if_ne (tgt := 142) dX7_rate_134 (by decide) (fun c9 => ?_) (fun c9 => ?_)
  · replace h := sx_in h c9
    refine sx_iload_n dX7_rate_142 rfl rfl ?_
    refine sx_iconst (v := (1 : Int32)) dX7_rate_143 (by decide) ?_
    refine sx_icmp_ne (tgt := 154) dX7_rate_144 (by decide) (fun c9 => ?_) (fun c9 => ?_)
    · replace h := sx_in h c9
      refine sx_iload_n dX7_rate_154 rfl rfl ?_
      refine sx_iconst (v := (2 : Int32)) dX7_rate_155 (by decide) ?_
      refine sx_icmp_ne (tgt := 166) dX7_rate_156 (by decide) (fun c9 => ?_) (fun c9 => ?_)
      · replace h := sx_in h c9
        refine sx_iload_n dX7_rate_166 rfl rfl ?_
        refine sx_iconst (v := (3 : Int32)) dX7_rate_167 (by decide) ?_
        refine sx_icmp_ne (tgt := 176) dX7_rate_168 (by decide) (fun c9 => ?_) (fun c9 => ?_)
        · replace h := sx_in h c9
          refine sx_iload_n dX7_rate_176 rfl rfl ?_
          refine sx_iconst (v := (4 : Int32)) dX7_rate_177 (by decide) ?_
          refine sx_icmp_ne (tgt := 188) dX7_rate_178 (by decide) (fun c9 => ?_) (fun c9 => ?_)
          · replace h := sx_in h c9
            refine sx_iload dX7_rate_188 rfl ?_
            refine sx_aload_n dX7_rate_190 rfl rfl ?_
            refine sx_getR dX7_rate_191 (hs := shM_0) (k9 := 11) (hf := rfl) cb_X7 ⟨by decide, rfl, gw_810⟩ ?_
            refine sx_iconst (v := (1 : Int32)) dX7_rate_194 (by decide) ?_
            refine sx_ialdC (j9 := 1) dX7_rate_195 shM_4 (fun _ _ => rfl) (by decide) (by decide) ?_
            refine sx_iadd dX7_rate_196 ?_
            obtain rfl := Option.some.inj h
            exact sx_iret dX7_rate_197 rfl hk9
          · replace h := sx_ip h c9
            refine sx_iconst (v := (2 : Int32)) dX7_rate_181 (by decide) ?_
            refine sx_iload dX7_rate_182 rfl ?_
            refine sx_imul dX7_rate_184 ?_
            refine sx_goto (tgt := 197) dX7_rate_185 (by decide) ?_
            obtain rfl := Option.some.inj h
            exact sx_iret dX7_rate_197 rfl hk9
        · replace h := sx_ip h c9
          refine sx_iload dX7_rate_171 rfl ?_
          refine sx_goto (tgt := 197) dX7_rate_173 (by decide) ?_
          obtain rfl := Option.some.inj h
          exact sx_iret dX7_rate_197 rfl hk9
      · replace h := sx_ip h c9
        refine sx_iload dX7_rate_159 rfl ?_
        refine sx_iload_n dX7_rate_161 rfl rfl ?_
        refine sx_iadd dX7_rate_162 ?_
        refine sx_goto (tgt := 197) dX7_rate_163 (by decide) ?_
        obtain rfl := Option.some.inj h
        exact sx_iret dX7_rate_197 rfl hk9
    · replace h := sx_ip h c9
      refine sx_iload dX7_rate_147 rfl ?_
      refine sx_iload_n dX7_rate_149 rfl rfl ?_
      refine sx_isub dX7_rate_150 ?_
      refine sx_goto (tgt := 197) dX7_rate_151 (by decide) ?_
      obtain rfl := Option.some.inj h
      exact sx_iret dX7_rate_197 rfl hk9
  · replace h := sx_ip h c9
    refine sx_iload dX7_rate_137 rfl ?_
    refine sx_goto (tgt := 197) dX7_rate_139 (by decide) ?_
    obtain rfl := Option.some.inj h
    exact sx_iret dX7_rate_197 rfl hk9
def F7_rate  (v1 : Int32) (v2 : Int32) (q : SQ) : Option (Int32 × SQ) :=
  sx_let (sI q 0 0 (0 : Int32)) (fun q1 => (F7_in  v1 (0 : Int32) (5 : Int32) q1).bind (fun z2 => (if z2.1 = 0 then F7_rate_22   z2.2 else (F7_isChild  v2 z2.2).bind (fun z3 => (if z3.1 = 0 then F7_rate_22   z3.2 else (if sx_ix ((3 : Int32) + ((3 : Int32) * v2)) 27 = true then sx_let (gI z3.2 4 ((3 : Int32) + ((3 : Int32) * v2)).toNatClampNeg) (fun x4 => (if sx_ix (((3 : Int32) + ((3 : Int32) * v2)) + (2 : Int32)) 27 = true then sx_let (gI z3.2 4 (((3 : Int32) + ((3 : Int32) * v2)) + (2 : Int32)).toNatClampNeg) (fun x5 => (if sx_ix (((3 : Int32) + ((3 : Int32) * v2)) + (1 : Int32)) 27 = true then sx_let ((x5 - x4) + (gI z3.2 4 (((3 : Int32) + ((3 : Int32) * v2)) + (1 : Int32)).toNatClampNeg)) (fun x6 => (if v1 = 0 then F7_rate_129  v1 x4 x5 x6 (1 : Int64) (gL z3.2 0 1) z3.2 else (if v1 = (1 : Int32) then F7_rate_129  v1 x4 x5 x6 (11 : Int64) (gL z3.2 0 1) z3.2 else (if v1 = (2 : Int32) then F7_rate_129  v1 x4 x5 x6 (101 : Int64) (gL z3.2 0 1) z3.2 else (if v1 = (3 : Int32) then F7_rate_129  v1 x4 x5 x6 (1011 : Int64) (gL z3.2 0 1) z3.2 else (if v1 = (4 : Int32) then F7_rate_129  v1 x4 x5 x6 (11011 : Int64) (gL z3.2 0 1) z3.2 else F7_rate_129  v1 x4 x5 x6 (100001 : Int64) (gL z3.2 0 1) z3.2)))))) else none)) else none)) else none))))))
set_option maxHeartbeats 400000 in
theorem F7_rate_ok (l : Launch)  {Q : Option Value → SQ → Prop} (v1 : Int32) (v2 : Int32) (q : SQ) {res : Int32 × SQ} (h : F7_rate  v1 v2 q = some res) (hk9 : Q (some (.int res.1)) res.2) : PF7_rate l Q 0 [(0, .ref 0), (1, .int v1), (2, .int v2)] [] q := by
  unfold F7_rate at h
  refine sx_aload_n dX7_rate_0 rfl rfl ?_
  refine sx_iconst (v := (0 : Int32)) dX7_rate_1 (by decide) ?_
  obtain ⟨q1, eq1, h⟩ := sx_lt h
  refine sx_putI dX7_rate_2 (hs := shM_0) (k9 := 0) (hf := rfl) cb_X7 ⟨by decide, rfl, gw_799⟩ rfl (by decide) ?_
  refine sx_nmQ eq1 ?_
  refine sx_iload_n dX7_rate_5 rfl rfl ?_
  refine sx_iconst (v := (0 : Int32)) dX7_rate_6 (by decide) ?_
  refine sx_iconst (v := (5 : Int32)) dX7_rate_7 (by decide) ?_
  obtain ⟨z2, hz2, h⟩ := sx_bd h
  refine sx_callS (As := [.int v1, .int (0 : Int32), .int (5 : Int32)]) (rest := []) KSM (F7_in_ck l  v1 (0 : Int32) (5 : Int32) q1 hz2) mi_X7_in gw_865 rfl gw_866 ⟨Nat.le_of_ble_eq_true rfl, Nat.le_of_ble_eq_true rfl⟩ (Nat.le_of_ble_eq_true rfl) dX7_rate_8 rfl ?_
  refine sx_if_eq (tgt := 22) dX7_rate_11 (by decide) (fun c9 => ?_) (fun c9 => ?_)
  · replace h := sx_ip h c9
    refine sx_locs [] rfl ?_
    exact F7_rate_22_ok l   z2.2 h hk9
  · replace h := sx_in h c9
    refine sx_aload_n dX7_rate_14 rfl rfl ?_
    refine sx_iload_n dX7_rate_15 rfl rfl ?_
    obtain ⟨z3, hz3, h⟩ := sx_bd h
    refine sx_callV (o := 0) (As := [.int v2]) (rest := []) KSM (F7_isChild_ck l  v2 z2.2 hz3) mi_X7_isChild gw_919 rfl ⟨gw_921, gw_40⟩ shM_0 rfl rfl ⟨Nat.le_of_ble_eq_true rfl, Nat.le_of_ble_eq_true rfl⟩ (Nat.le_of_ble_eq_true rfl) dX7_rate_16 rfl ?_
    refine sx_if_ne (tgt := 25) dX7_rate_19 (by decide) (fun c9 => ?_) (fun c9 => ?_)
    · replace h := sx_in h c9
      refine sx_aload_n dX7_rate_25 rfl rfl ?_
      refine sx_getR dX7_rate_26 (hs := shM_0) (k9 := 11) (hf := rfl) cb_X7 ⟨by decide, rfl, gw_810⟩ ?_
      refine sx_iconst (v := (3 : Int32)) dX7_rate_29 (by decide) ?_
      refine sx_iconst (v := (3 : Int32)) dX7_rate_30 (by decide) ?_
      refine sx_iload_n dX7_rate_31 rfl rfl ?_
      refine sx_imul dX7_rate_32 ?_
      refine sx_iadd dX7_rate_33 ?_
      obtain ⟨g9, h⟩ := sx_gd h
      refine sx_iald dX7_rate_34 shM_4 (fun _ _ => rfl) (sx_ix_in g9) ?_
      obtain ⟨x4, ex4, h⟩ := sx_lt h
      refine sx_nmI ex4 ?_
      refine sx_istore_n (ls2 := [(3, .int x4), (0, .ref 0), (1, .int v1), (2, .int v2)]) dX7_rate_35 rfl (by decide) rfl ?_
      refine sx_aload_n dX7_rate_36 rfl rfl ?_
      refine sx_getR dX7_rate_37 (hs := shM_0) (k9 := 11) (hf := rfl) cb_X7 ⟨by decide, rfl, gw_810⟩ ?_
      refine sx_iconst (v := (3 : Int32)) dX7_rate_40 (by decide) ?_
      refine sx_iconst (v := (3 : Int32)) dX7_rate_41 (by decide) ?_
      refine sx_iload_n dX7_rate_42 rfl rfl ?_
      refine sx_imul dX7_rate_43 ?_
      refine sx_iadd dX7_rate_44 ?_
      refine sx_iconst (v := (2 : Int32)) dX7_rate_45 (by decide) ?_
      refine sx_iadd dX7_rate_46 ?_
      obtain ⟨g9, h⟩ := sx_gd h
      refine sx_iald dX7_rate_47 shM_4 (fun _ _ => rfl) (sx_ix_in g9) ?_
      obtain ⟨x5, ex5, h⟩ := sx_lt h
      refine sx_nmI ex5 ?_
      refine sx_istore (ls2 := [(4, .int x5), (3, .int x4), (0, .ref 0), (1, .int v1), (2, .int v2)]) dX7_rate_48 (by decide) rfl ?_
      refine sx_iload dX7_rate_50 rfl ?_
      refine sx_iload_n dX7_rate_52 rfl rfl ?_
      refine sx_isub dX7_rate_53 ?_
      refine sx_aload_n dX7_rate_54 rfl rfl ?_
      refine sx_getR dX7_rate_55 (hs := shM_0) (k9 := 11) (hf := rfl) cb_X7 ⟨by decide, rfl, gw_810⟩ ?_
      refine sx_iconst (v := (3 : Int32)) dX7_rate_58 (by decide) ?_
      refine sx_iconst (v := (3 : Int32)) dX7_rate_59 (by decide) ?_
      refine sx_iload_n dX7_rate_60 rfl rfl ?_
      refine sx_imul dX7_rate_61 ?_
      refine sx_iadd dX7_rate_62 ?_
      refine sx_iconst (v := (1 : Int32)) dX7_rate_63 (by decide) ?_
      refine sx_iadd dX7_rate_64 ?_
      obtain ⟨g9, h⟩ := sx_gd h
      refine sx_iald dX7_rate_65 shM_4 (fun _ _ => rfl) (sx_ix_in g9) ?_
      refine sx_iadd dX7_rate_66 ?_
      obtain ⟨x6, ex6, h⟩ := sx_lt h
      refine sx_nmI ex6 ?_
      refine sx_istore (ls2 := [(5, .int x6), (4, .int x5), (3, .int x4), (0, .ref 0), (1, .int v1), (2, .int v2)]) dX7_rate_67 (by decide) rfl ?_
      refine sx_aload_n dX7_rate_69 rfl rfl ?_
      refine sx_dup dX7_rate_70 rfl ?_
      refine sx_getL dX7_rate_71 (hs := shM_0) (k9 := 1) (hf := rfl) cb_X7 ⟨by decide, rfl, gw_800⟩ ?_
      refine sx_iload_n dX7_rate_74 rfl rfl ?_
      refine sx_if_ne (tgt := 82) dX7_rate_75 (by decide) (fun c9 => ?_) (fun c9 => ?_)
      · replace h := sx_in h c9
        refine sx_iload_n dX7_rate_82 rfl rfl ?_
        refine sx_iconst (v := (1 : Int32)) dX7_rate_83 (by decide) ?_
        refine sx_icmp_ne (tgt := 93) dX7_rate_84 (by decide) (fun c9 => ?_) (fun c9 => ?_)
        · replace h := sx_in h c9
          refine sx_iload_n dX7_rate_93 rfl rfl ?_
          refine sx_iconst (v := (2 : Int32)) dX7_rate_94 (by decide) ?_
          refine sx_icmp_ne (tgt := 104) dX7_rate_95 (by decide) (fun c9 => ?_) (fun c9 => ?_)
          · replace h := sx_in h c9
            refine sx_iload_n dX7_rate_104 rfl rfl ?_
            refine sx_iconst (v := (3 : Int32)) dX7_rate_105 (by decide) ?_
            refine sx_icmp_ne (tgt := 115) dX7_rate_106 (by decide) (fun c9 => ?_) (fun c9 => ?_)
            · replace h := sx_in h c9
              refine sx_iload_n dX7_rate_115 rfl rfl ?_
              refine sx_iconst (v := (4 : Int32)) dX7_rate_116 (by decide) ?_
              refine sx_icmp_ne (tgt := 126) dX7_rate_117 (by decide) (fun c9 => ?_) (fun c9 => ?_)
              · replace h := sx_in h c9
                refine sx_ldc2 (v := (100001 : Int64)) dX7_rate_126 gw_1114 ?_
                refine sx_locs [3, 4, 2, 1, 0] rfl ?_
                exact F7_rate_129_ok l  v1 x4 x5 x6 (100001 : Int64) (gL z3.2 0 1) z3.2 h hk9
              · replace h := sx_ip h c9
                refine sx_ldc2 (v := (11011 : Int64)) dX7_rate_120 gw_1113 ?_
                refine sx_goto (tgt := 129) dX7_rate_123 (by decide) ?_
                refine sx_locs [3, 4, 2, 1, 0] rfl ?_
                exact F7_rate_129_ok l  v1 x4 x5 x6 (11011 : Int64) (gL z3.2 0 1) z3.2 h hk9
            · replace h := sx_ip h c9
              refine sx_ldc2 (v := (1011 : Int64)) dX7_rate_109 gw_1112 ?_
              refine sx_goto (tgt := 129) dX7_rate_112 (by decide) ?_
              refine sx_locs [3, 4, 2, 1, 0] rfl ?_
              exact F7_rate_129_ok l  v1 x4 x5 x6 (1011 : Int64) (gL z3.2 0 1) z3.2 h hk9
          · replace h := sx_ip h c9
            refine sx_ldc2 (v := (101 : Int64)) dX7_rate_98 gw_1111 ?_
            refine sx_goto (tgt := 129) dX7_rate_101 (by decide) ?_
            refine sx_locs [3, 4, 2, 1, 0] rfl ?_
            exact F7_rate_129_ok l  v1 x4 x5 x6 (101 : Int64) (gL z3.2 0 1) z3.2 h hk9
        · replace h := sx_ip h c9
          refine sx_ldc2 (v := (11 : Int64)) dX7_rate_87 gw_1110 ?_
          refine sx_goto (tgt := 129) dX7_rate_90 (by decide) ?_
          refine sx_locs [3, 4, 2, 1, 0] rfl ?_
          exact F7_rate_129_ok l  v1 x4 x5 x6 (11 : Int64) (gL z3.2 0 1) z3.2 h hk9
      · replace h := sx_ip h c9
        refine sx_lconst (v := (1 : Int64)) dX7_rate_78 (by decide) ?_
        refine sx_goto (tgt := 129) dX7_rate_79 (by decide) ?_
        refine sx_locs [3, 4, 2, 1, 0] rfl ?_
        exact F7_rate_129_ok l  v1 x4 x5 x6 (1 : Int64) (gL z3.2 0 1) z3.2 h hk9
    · replace h := sx_ip h c9
      refine sx_locs [] rfl ?_
      exact F7_rate_22_ok l   z3.2 h hk9
theorem F7_rate_ck (l : Launch)  (v1 : Int32) (v2 : Int32) (q : SQ) {r : Int32 × SQ} (h : F7_rate  v1 v2 q = some r) : CK shM vwCl KM tfM l yX7_rate cX7_rate 6 ((some .int)) 2 43 [.ref 0, .int v1, .int v2] q (some (.int r.1)) r.2 :=
  CK.of mi_X7_rate (Nat.le_of_ble_eq_true rfl) (F7_rate_ok l  v1 v2 q h ⟨rfl, rfl⟩)
theorem mi_X7_keep : sx_MI yX7_keep cX7_keep 3 ((some .int)) 1 := ⟨by decide, ⟨by decide, by decide, by decide +kernel⟩, gw_1118, gw_68⟩
abbrev PF7_keep (l : Launch) (Q : Option Value → SQ → Prop) : Nat → List (Nat × Value) → List Value → SQ → Prop := XX shM vwCl KM tfM l RX7 cX7_keep 3 ((some .int)) { frames := 1, cells := 0, slots := 0, locals := 22 } Q
def F7_keep_18b  (v1 : Int32) (v2 : Int32) (q : SQ) : Option ((Int32 × SQ) ⊕ (Int32 × SQ)) :=
  (if (27 : Int32) ≤ v2 then (if sx_ix v1 2 = true then sx_let (sI q 6 v1.toNatClampNeg (1 : Int32)) (fun q3 => some (.inr (gI q3 4 0, q3))) else none) else (if sx_ix v2 27 = true then (if sx_ix (((27 : Int32) * v1) + v2) 54 = true then sx_let (sI q 5 (((27 : Int32) * v1) + v2).toNatClampNeg (gI q 4 v2.toNatClampNeg)) (fun q4 => sx_let (v2 + (1 : Int32)) (fun x5 => some (.inl (x5, q4)))) else none) else none))
set_option maxHeartbeats 400000 in
theorem F7_keep_18b_ok (l : Launch)  {Q : Option Value → SQ → Prop} (v1 : Int32) (v2 : Int32) (q : SQ) {res : (Int32 × SQ) ⊕ (Int32 × SQ)} (h : F7_keep_18b  v1 v2 q = some res) (hk9 : (∀ a6, res = .inl a6 → PF7_keep l Q 18 [(0, .ref 0), (1, .int v1), (2, .int a6.1)] [] a6.2) ∧ (∀ b7, res = .inr b7 → Q (some (.int b7.1)) b7.2)) : PF7_keep l Q 18 [(0, .ref 0), (1, .int v1), (2, .int v2)] [] q := by
  unfold F7_keep_18b at h
  refine sx_iload_n dX7_keep_18 rfl rfl ?_
  refine sx_bipush (v := (27 : Int32)) dX7_keep_19 (by decide) ?_
  refine sx_icmp_ge (tgt := 47) dX7_keep_21 (by decide) (fun c9 => ?_) (fun c9 => ?_)
  · replace h := sx_ip h c9
    refine sx_aload_n dX7_keep_47 rfl rfl ?_
    refine sx_getR dX7_keep_48 (hs := shM_0) (k9 := 13) (hf := rfl) cb_X7 ⟨by decide, rfl, gw_812⟩ ?_
    refine sx_iload_n dX7_keep_51 rfl rfl ?_
    refine sx_iconst (v := (1 : Int32)) dX7_keep_52 (by decide) ?_
    obtain ⟨g9, h⟩ := sx_gd h
    obtain ⟨q3, eq3, h⟩ := sx_lt h
    refine sx_zastV dX7_keep_53 shM_6 (fun _ _ => rfl) (sx_ix_in g9) (by decide) ?_
    refine sx_nmQ eq3 ?_
    refine sx_aload_n dX7_keep_54 rfl rfl ?_
    refine sx_getR dX7_keep_55 (hs := shM_0) (k9 := 11) (hf := rfl) cb_X7 ⟨by decide, rfl, gw_810⟩ ?_
    refine sx_iconst (v := (0 : Int32)) dX7_keep_58 (by decide) ?_
    refine sx_ialdC (j9 := 0) dX7_keep_59 shM_4 (fun _ _ => rfl) (by decide) (by decide) ?_
    have hk9 := hk9.2 _ (Option.some.inj h).symm
    exact sx_iret dX7_keep_60 rfl hk9
  · replace h := sx_in h c9
    refine sx_aload_n dX7_keep_24 rfl rfl ?_
    refine sx_getR dX7_keep_25 (hs := shM_0) (k9 := 12) (hf := rfl) cb_X7 ⟨by decide, rfl, gw_811⟩ ?_
    refine sx_bipush (v := (27 : Int32)) dX7_keep_28 (by decide) ?_
    refine sx_iload_n dX7_keep_30 rfl rfl ?_
    refine sx_imul dX7_keep_31 ?_
    refine sx_iload_n dX7_keep_32 rfl rfl ?_
    refine sx_iadd dX7_keep_33 ?_
    refine sx_aload_n dX7_keep_34 rfl rfl ?_
    refine sx_getR dX7_keep_35 (hs := shM_0) (k9 := 11) (hf := rfl) cb_X7 ⟨by decide, rfl, gw_810⟩ ?_
    refine sx_iload_n dX7_keep_38 rfl rfl ?_
    obtain ⟨g9, h⟩ := sx_gd h
    refine sx_iald dX7_keep_39 shM_4 (fun _ _ => rfl) (sx_ix_in g9) ?_
    obtain ⟨g9, h⟩ := sx_gd h
    obtain ⟨q4, eq4, h⟩ := sx_lt h
    refine sx_iast dX7_keep_40 shM_5 (fun _ _ => rfl) (sx_ix_in g9) ?_
    refine sx_nmQ eq4 ?_
    obtain ⟨x5, ex5, h⟩ := sx_lt h
    refine sx_iinc (k9 := 2) (v := x5) (ls2 := [(2, .int x5), (0, .ref 0), (1, .int v1)]) dX7_keep_41 rfl (by rw [ex5, sx_ofI1]) (by decide) rfl ?_
    refine sx_goto (tgt := 18) dX7_keep_44 (by decide) ?_
    refine sx_locs [1, 2, 0] rfl ?_
    exact hk9.1 (x5, q4) (Option.some.inj h).symm
def F7_keep_18  (v1 : Int32) (v2 : Int32) (q : SQ) : Option (Int32 × SQ) := sx_loop (fun s8 => F7_keep_18b  v1 s8.1 s8.2) FU (v2, q)
set_option maxHeartbeats 400000 in
theorem F7_keep_18_ok (l : Launch)  {Q : Option Value → SQ → Prop} (v1 : Int32) (v2 : Int32) (q : SQ) {t : Int32 × SQ} (h : F7_keep_18  v1 v2 q = some t) (hk9 : Q (some (.int t.1)) t.2) : PF7_keep l Q 18 [(0, .ref 0), (1, .int v1), (2, .int v2)] [] q := by
  unfold F7_keep_18 at h
  have st : ∀ (s : Int32 × SQ) (res : (Int32 × SQ) ⊕ (Int32 × SQ)), F7_keep_18b  v1 s.1 s.2 = some res → (∀ s2, res = .inl s2 → PF7_keep l Q 18 [(0, .ref 0), (1, .int v1), (2, .int s2.1)] [] s2.2) → (∀ t2, res = .inr t2 → Q (some (.int t2.1)) t2.2) → PF7_keep l Q 18 [(0, .ref 0), (1, .int v1), (2, .int s.1)] [] s.2 :=
    fun s res hb hi ho => F7_keep_18b_ok l  v1 s.1 s.2 hb ⟨hi, ho⟩
  have h9 : PF7_keep l Q 18 [(0, .ref 0), (1, .int v1), (2, .int v2)] [] q := sx_lp (body := fun s => F7_keep_18b  v1 s.1 s.2) (P := fun s => PF7_keep l Q 18 [(0, .ref 0), (1, .int v1), (2, .int s.1)] [] s.2) (T := fun t => Q (some (.int t.1)) t.2) st FU (v2, q) t h hk9
  exact h9
def F7_keep  (v1 : Int32) (q : SQ) : Option (Int32 × SQ) :=
  sx_let (sI q 0 0 (0 : Int32)) (fun q1 => (F7_in  v1 (0 : Int32) (1 : Int32) q1).bind (fun z2 => (if z2.1 = 0 then some ((-1 : Int32), z2.2) else F7_keep_18  v1 (0 : Int32) z2.2)))
set_option maxHeartbeats 400000 in
theorem F7_keep_ok (l : Launch)  {Q : Option Value → SQ → Prop} (v1 : Int32) (q : SQ) {res : Int32 × SQ} (h : F7_keep  v1 q = some res) (hk9 : Q (some (.int res.1)) res.2) : PF7_keep l Q 0 [(0, .ref 0), (1, .int v1)] [] q := by
  unfold F7_keep at h
  refine sx_aload_n dX7_keep_0 rfl rfl ?_
  refine sx_iconst (v := (0 : Int32)) dX7_keep_1 (by decide) ?_
  obtain ⟨q1, eq1, h⟩ := sx_lt h
  refine sx_putI dX7_keep_2 (hs := shM_0) (k9 := 0) (hf := rfl) cb_X7 ⟨by decide, rfl, gw_799⟩ rfl (by decide) ?_
  refine sx_nmQ eq1 ?_
  refine sx_iload_n dX7_keep_5 rfl rfl ?_
  refine sx_iconst (v := (0 : Int32)) dX7_keep_6 (by decide) ?_
  refine sx_iconst (v := (1 : Int32)) dX7_keep_7 (by decide) ?_
  obtain ⟨z2, hz2, h⟩ := sx_bd h
  refine sx_callS (As := [.int v1, .int (0 : Int32), .int (1 : Int32)]) (rest := []) KSM (F7_in_ck l  v1 (0 : Int32) (1 : Int32) q1 hz2) mi_X7_in gw_865 rfl gw_866 ⟨Nat.le_of_ble_eq_true rfl, Nat.le_of_ble_eq_true rfl⟩ (Nat.le_of_ble_eq_true rfl) dX7_keep_8 rfl ?_
  refine sx_if_ne (tgt := 16) dX7_keep_11 (by decide) (fun c9 => ?_) (fun c9 => ?_)
  · replace h := sx_in h c9
    refine sx_iconst (v := (0 : Int32)) dX7_keep_16 (by decide) ?_
    refine sx_istore_n (ls2 := [(2, .int (0 : Int32)), (0, .ref 0), (1, .int v1)]) dX7_keep_17 rfl (by decide) rfl ?_
    refine sx_locs [1, 2, 0] rfl ?_
    exact F7_keep_18_ok l  v1 (0 : Int32) z2.2 h hk9
  · replace h := sx_ip h c9
    refine sx_iconst (v := (-1 : Int32)) dX7_keep_14 (by decide) ?_
    obtain rfl := Option.some.inj h
    exact sx_iret dX7_keep_15 rfl hk9
theorem F7_keep_ck (l : Launch)  (v1 : Int32) (q : SQ) {r : Int32 × SQ} (h : F7_keep  v1 q = some r) : CK shM vwCl KM tfM l yX7_keep cX7_keep 3 ((some .int)) 1 22 [.ref 0, .int v1] q (some (.int r.1)) r.2 :=
  CK.of mi_X7_keep (Nat.le_of_ble_eq_true rfl) (F7_keep_ok l  v1 q h ⟨rfl, rfl⟩)
theorem mi_X7_back : sx_MI yX7_back cX7_back 3 ((some .int)) 1 := ⟨by decide, ⟨by decide, by decide, by decide +kernel⟩, gw_1122, gw_68⟩
abbrev PF7_back (l : Launch) (Q : Option Value → SQ → Prop) : Nat → List (Nat × Value) → List Value → SQ → Prop := XX shM vwCl KM tfM l RX7 cX7_back 3 ((some .int)) { frames := 1, cells := 0, slots := 0, locals := 22 } Q
def F7_back_30b  (v1 : Int32) (v2 : Int32) (q : SQ) : Option ((Int32 × SQ) ⊕ (Int32 × SQ)) :=
  (if (27 : Int32) ≤ v2 then some (.inr (gI q 4 0, q)) else (if sx_ix (((27 : Int32) * v1) + v2) 54 = true then (if sx_ix v2 27 = true then sx_let (sI q 4 v2.toNatClampNeg (gI q 5 (((27 : Int32) * v1) + v2).toNatClampNeg)) (fun q3 => sx_let (v2 + (1 : Int32)) (fun x4 => some (.inl (x4, q3)))) else none) else none))
set_option maxHeartbeats 400000 in
theorem F7_back_30b_ok (l : Launch)  {Q : Option Value → SQ → Prop} (v1 : Int32) (v2 : Int32) (q : SQ) {res : (Int32 × SQ) ⊕ (Int32 × SQ)} (h : F7_back_30b  v1 v2 q = some res) (hk9 : (∀ a5, res = .inl a5 → PF7_back l Q 30 [(0, .ref 0), (1, .int v1), (2, .int a5.1)] [] a5.2) ∧ (∀ b6, res = .inr b6 → Q (some (.int b6.1)) b6.2)) : PF7_back l Q 30 [(0, .ref 0), (1, .int v1), (2, .int v2)] [] q := by
  unfold F7_back_30b at h
  refine sx_iload_n dX7_back_30 rfl rfl ?_
  refine sx_bipush (v := (27 : Int32)) dX7_back_31 (by decide) ?_
  refine sx_icmp_ge (tgt := 59) dX7_back_33 (by decide) (fun c9 => ?_) (fun c9 => ?_)
  · replace h := sx_ip h c9
    refine sx_aload_n dX7_back_59 rfl rfl ?_
    refine sx_getR dX7_back_60 (hs := shM_0) (k9 := 11) (hf := rfl) cb_X7 ⟨by decide, rfl, gw_810⟩ ?_
    refine sx_iconst (v := (0 : Int32)) dX7_back_63 (by decide) ?_
    refine sx_ialdC (j9 := 0) dX7_back_64 shM_4 (fun _ _ => rfl) (by decide) (by decide) ?_
    have hk9 := hk9.2 _ (Option.some.inj h).symm
    exact sx_iret dX7_back_65 rfl hk9
  · replace h := sx_in h c9
    refine sx_aload_n dX7_back_36 rfl rfl ?_
    refine sx_getR dX7_back_37 (hs := shM_0) (k9 := 11) (hf := rfl) cb_X7 ⟨by decide, rfl, gw_810⟩ ?_
    refine sx_iload_n dX7_back_40 rfl rfl ?_
    refine sx_aload_n dX7_back_41 rfl rfl ?_
    refine sx_getR dX7_back_42 (hs := shM_0) (k9 := 12) (hf := rfl) cb_X7 ⟨by decide, rfl, gw_811⟩ ?_
    refine sx_bipush (v := (27 : Int32)) dX7_back_45 (by decide) ?_
    refine sx_iload_n dX7_back_47 rfl rfl ?_
    refine sx_imul dX7_back_48 ?_
    refine sx_iload_n dX7_back_49 rfl rfl ?_
    refine sx_iadd dX7_back_50 ?_
    obtain ⟨g9, h⟩ := sx_gd h
    refine sx_iald dX7_back_51 shM_5 (fun _ _ => rfl) (sx_ix_in g9) ?_
    obtain ⟨g9, h⟩ := sx_gd h
    obtain ⟨q3, eq3, h⟩ := sx_lt h
    refine sx_iast dX7_back_52 shM_4 (fun _ _ => rfl) (sx_ix_in g9) ?_
    refine sx_nmQ eq3 ?_
    obtain ⟨x4, ex4, h⟩ := sx_lt h
    refine sx_iinc (k9 := 2) (v := x4) (ls2 := [(2, .int x4), (0, .ref 0), (1, .int v1)]) dX7_back_53 rfl (by rw [ex4, sx_ofI1]) (by decide) rfl ?_
    refine sx_goto (tgt := 30) dX7_back_56 (by decide) ?_
    refine sx_locs [1, 2, 0] rfl ?_
    exact hk9.1 (x4, q3) (Option.some.inj h).symm
def F7_back_30  (v1 : Int32) (v2 : Int32) (q : SQ) : Option (Int32 × SQ) := sx_loop (fun s7 => F7_back_30b  v1 s7.1 s7.2) FU (v2, q)
set_option maxHeartbeats 400000 in
theorem F7_back_30_ok (l : Launch)  {Q : Option Value → SQ → Prop} (v1 : Int32) (v2 : Int32) (q : SQ) {t : Int32 × SQ} (h : F7_back_30  v1 v2 q = some t) (hk9 : Q (some (.int t.1)) t.2) : PF7_back l Q 30 [(0, .ref 0), (1, .int v1), (2, .int v2)] [] q := by
  unfold F7_back_30 at h
  have st : ∀ (s : Int32 × SQ) (res : (Int32 × SQ) ⊕ (Int32 × SQ)), F7_back_30b  v1 s.1 s.2 = some res → (∀ s2, res = .inl s2 → PF7_back l Q 30 [(0, .ref 0), (1, .int v1), (2, .int s2.1)] [] s2.2) → (∀ t2, res = .inr t2 → Q (some (.int t2.1)) t2.2) → PF7_back l Q 30 [(0, .ref 0), (1, .int v1), (2, .int s.1)] [] s.2 :=
    fun s res hb hi ho => F7_back_30b_ok l  v1 s.1 s.2 hb ⟨hi, ho⟩
  have h9 : PF7_back l Q 30 [(0, .ref 0), (1, .int v1), (2, .int v2)] [] q := sx_lp (body := fun s => F7_back_30b  v1 s.1 s.2) (P := fun s => PF7_back l Q 30 [(0, .ref 0), (1, .int v1), (2, .int s.1)] [] s.2) (T := fun t => Q (some (.int t.1)) t.2) st FU (v2, q) t h hk9
  exact h9
def F7_back  (v1 : Int32) (q : SQ) : Option (Int32 × SQ) :=
  sx_let (sI q 0 0 (0 : Int32)) (fun q1 => (F7_in  v1 (0 : Int32) (1 : Int32) q1).bind (fun z2 => (if z2.1 = 0 then some ((-1 : Int32), z2.2) else (if sx_ix v1 2 = true then (if gI z2.2 6 v1.toNatClampNeg = 0 then some ((-2 : Int32), z2.2) else F7_back_30  v1 (0 : Int32) z2.2) else none))))
set_option maxHeartbeats 400000 in
theorem F7_back_ok (l : Launch)  {Q : Option Value → SQ → Prop} (v1 : Int32) (q : SQ) {res : Int32 × SQ} (h : F7_back  v1 q = some res) (hk9 : Q (some (.int res.1)) res.2) : PF7_back l Q 0 [(0, .ref 0), (1, .int v1)] [] q := by
  unfold F7_back at h
  refine sx_aload_n dX7_back_0 rfl rfl ?_
  refine sx_iconst (v := (0 : Int32)) dX7_back_1 (by decide) ?_
  obtain ⟨q1, eq1, h⟩ := sx_lt h
  refine sx_putI dX7_back_2 (hs := shM_0) (k9 := 0) (hf := rfl) cb_X7 ⟨by decide, rfl, gw_799⟩ rfl (by decide) ?_
  refine sx_nmQ eq1 ?_
  refine sx_iload_n dX7_back_5 rfl rfl ?_
  refine sx_iconst (v := (0 : Int32)) dX7_back_6 (by decide) ?_
  refine sx_iconst (v := (1 : Int32)) dX7_back_7 (by decide) ?_
  obtain ⟨z2, hz2, h⟩ := sx_bd h
  refine sx_callS (As := [.int v1, .int (0 : Int32), .int (1 : Int32)]) (rest := []) KSM (F7_in_ck l  v1 (0 : Int32) (1 : Int32) q1 hz2) mi_X7_in gw_865 rfl gw_866 ⟨Nat.le_of_ble_eq_true rfl, Nat.le_of_ble_eq_true rfl⟩ (Nat.le_of_ble_eq_true rfl) dX7_back_8 rfl ?_
  refine sx_if_ne (tgt := 16) dX7_back_11 (by decide) (fun c9 => ?_) (fun c9 => ?_)
  · replace h := sx_in h c9
    refine sx_aload_n dX7_back_16 rfl rfl ?_
    refine sx_getR dX7_back_17 (hs := shM_0) (k9 := 13) (hf := rfl) cb_X7 ⟨by decide, rfl, gw_812⟩ ?_
    refine sx_iload_n dX7_back_20 rfl rfl ?_
    obtain ⟨g9, h⟩ := sx_gd h
    refine sx_zald dX7_back_21 shM_6 (fun _ _ => rfl) (sx_ix_in g9) ?_
    refine sx_if_ne (tgt := 28) dX7_back_22 (by decide) (fun c9 => ?_) (fun c9 => ?_)
    · replace h := sx_in h c9
      refine sx_iconst (v := (0 : Int32)) dX7_back_28 (by decide) ?_
      refine sx_istore_n (ls2 := [(2, .int (0 : Int32)), (0, .ref 0), (1, .int v1)]) dX7_back_29 rfl (by decide) rfl ?_
      refine sx_locs [1, 2, 0] rfl ?_
      exact F7_back_30_ok l  v1 (0 : Int32) z2.2 h hk9
    · replace h := sx_ip h c9
      refine sx_bipush (v := (-2 : Int32)) dX7_back_25 (by decide) ?_
      obtain rfl := Option.some.inj h
      exact sx_iret dX7_back_27 rfl hk9
  · replace h := sx_ip h c9
    refine sx_iconst (v := (-1 : Int32)) dX7_back_14 (by decide) ?_
    obtain rfl := Option.some.inj h
    exact sx_iret dX7_back_15 rfl hk9
theorem F7_back_ck (l : Launch)  (v1 : Int32) (q : SQ) {r : Int32 × SQ} (h : F7_back  v1 q = some r) : CK shM vwCl KM tfM l yX7_back cX7_back 3 ((some .int)) 1 22 [.ref 0, .int v1] q (some (.int r.1)) r.2 :=
  CK.of mi_X7_back (Nat.le_of_ble_eq_true rfl) (F7_back_ok l  v1 q h ⟨rfl, rfl⟩)
theorem mi_X7_count : sx_MI yX7_count cX7_count 2 ((some .int)) 1 := ⟨by decide, ⟨by decide, by decide, by decide +kernel⟩, gw_1126, gw_68⟩
abbrev PF7_count (l : Launch) (Q : Option Value → SQ → Prop) : Nat → List (Nat × Value) → List Value → SQ → Prop := XX shM vwCl KM tfM l RX7 cX7_count 2 ((some .int)) { frames := 0, cells := 0, slots := 0, locals := 0 } Q
def F7_count  (v1 : Int32) (q : SQ) : Option (Int32 × SQ) :=
  sx_let (sI q 0 0 (0 : Int32)) (fun q1 => (if v1 = 0 then some (gI q1 2 40, q1) else (if v1 = (1 : Int32) then some (gI q1 2 41, q1) else (if v1 = (2 : Int32) then some (gI q1 0 19, q1) else (if v1 = (3 : Int32) then some (gI q1 0 3, q1) else some ((-1 : Int32), q1))))))
set_option maxHeartbeats 400000 in
theorem F7_count_ok (l : Launch)  {Q : Option Value → SQ → Prop} (v1 : Int32) (q : SQ) {res : Int32 × SQ} (h : F7_count  v1 q = some res) (hk9 : Q (some (.int res.1)) res.2) : PF7_count l Q 0 [(0, .ref 0), (1, .int v1)] [] q := by
  unfold F7_count at h
  refine sx_aload_n dX7_count_0 rfl rfl ?_
  refine sx_iconst (v := (0 : Int32)) dX7_count_1 (by decide) ?_
  obtain ⟨q1, eq1, h⟩ := sx_lt h
  refine sx_putI dX7_count_2 (hs := shM_0) (k9 := 0) (hf := rfl) cb_X7 ⟨by decide, rfl, gw_799⟩ rfl (by decide) ?_
  refine sx_nmQ eq1 ?_
  refine sx_iload_n dX7_count_5 rfl rfl ?_
  refine sx_if_ne (tgt := 19) dX7_count_6 (by decide) (fun c9 => ?_) (fun c9 => ?_)
  · replace h := sx_in h c9
    refine sx_iload_n dX7_count_19 rfl rfl ?_
    refine sx_iconst (v := (1 : Int32)) dX7_count_20 (by decide) ?_
    refine sx_icmp_ne (tgt := 34) dX7_count_21 (by decide) (fun c9 => ?_) (fun c9 => ?_)
    · replace h := sx_in h c9
      refine sx_iload_n dX7_count_34 rfl rfl ?_
      refine sx_iconst (v := (2 : Int32)) dX7_count_35 (by decide) ?_
      refine sx_icmp_ne (tgt := 46) dX7_count_36 (by decide) (fun c9 => ?_) (fun c9 => ?_)
      · replace h := sx_in h c9
        refine sx_iload_n dX7_count_46 rfl rfl ?_
        refine sx_iconst (v := (3 : Int32)) dX7_count_47 (by decide) ?_
        refine sx_icmp_ne (tgt := 58) dX7_count_48 (by decide) (fun c9 => ?_) (fun c9 => ?_)
        · replace h := sx_in h c9
          refine sx_iconst (v := (-1 : Int32)) dX7_count_58 (by decide) ?_
          obtain rfl := Option.some.inj h
          exact sx_iret dX7_count_59 rfl hk9
        · replace h := sx_ip h c9
          refine sx_aload_n dX7_count_51 rfl rfl ?_
          refine sx_getI dX7_count_52 (hs := shM_0) (k9 := 3) (hf := rfl) cb_X7 ⟨by decide, rfl, gw_802⟩ ?_
          refine sx_goto (tgt := 59) dX7_count_55 (by decide) ?_
          obtain rfl := Option.some.inj h
          exact sx_iret dX7_count_59 rfl hk9
      · replace h := sx_ip h c9
        refine sx_aload_n dX7_count_39 rfl rfl ?_
        refine sx_getI dX7_count_40 (hs := shM_0) (k9 := 19) (hf := rfl) cb_X7 ⟨by decide, rfl, gw_818⟩ ?_
        refine sx_goto (tgt := 59) dX7_count_43 (by decide) ?_
        obtain rfl := Option.some.inj h
        exact sx_iret dX7_count_59 rfl hk9
    · replace h := sx_ip h c9
      refine sx_aload_n dX7_count_24 rfl rfl ?_
      refine sx_getR dX7_count_25 (hs := shM_0) (k9 := 9) (hf := rfl) cb_X7 ⟨by decide, rfl, gw_808⟩ ?_
      refine sx_bipush (v := (41 : Int32)) dX7_count_28 (by decide) ?_
      refine sx_ialdC (j9 := 41) dX7_count_30 shM_2 (fun _ _ => rfl) (by decide) (by decide) ?_
      refine sx_goto (tgt := 59) dX7_count_31 (by decide) ?_
      obtain rfl := Option.some.inj h
      exact sx_iret dX7_count_59 rfl hk9
  · replace h := sx_ip h c9
    refine sx_aload_n dX7_count_9 rfl rfl ?_
    refine sx_getR dX7_count_10 (hs := shM_0) (k9 := 9) (hf := rfl) cb_X7 ⟨by decide, rfl, gw_808⟩ ?_
    refine sx_bipush (v := (40 : Int32)) dX7_count_13 (by decide) ?_
    refine sx_ialdC (j9 := 40) dX7_count_15 shM_2 (fun _ _ => rfl) (by decide) (by decide) ?_
    refine sx_goto (tgt := 59) dX7_count_16 (by decide) ?_
    obtain rfl := Option.some.inj h
    exact sx_iret dX7_count_59 rfl hk9
theorem F7_count_ck (l : Launch)  (v1 : Int32) (q : SQ) {r : Int32 × SQ} (h : F7_count  v1 q = some r) : CK shM vwCl KM tfM l yX7_count cX7_count 2 ((some .int)) 0 0 [.ref 0, .int v1] q (some (.int r.1)) r.2 :=
  CK.of mi_X7_count (Nat.le_of_ble_eq_true rfl) (F7_count_ok l  v1 q h ⟨rfl, rfl⟩)
theorem mi_X7_trace : sx_MI yX7_trace cX7_trace 1 ((some .long)) 0 := ⟨by decide, ⟨by decide, by decide, by decide +kernel⟩, gw_1130, gw_68⟩
abbrev PF7_trace (l : Launch) (Q : Option Value → SQ → Prop) : Nat → List (Nat × Value) → List Value → SQ → Prop := XX shM vwCl KM tfM l RX7 cX7_trace 1 ((some .long)) { frames := 0, cells := 0, slots := 0, locals := 0 } Q
def F7_trace   (q : SQ) : Option (Int64 × SQ) :=
  sx_let (sI q 0 0 (0 : Int32)) (fun q1 => some (gL q1 0 1, q1))
set_option maxHeartbeats 400000 in
theorem F7_trace_ok (l : Launch)  {Q : Option Value → SQ → Prop}  (q : SQ) {res : Int64 × SQ} (h : F7_trace   q = some res) (hk9 : Q (some (.long res.1)) res.2) : PF7_trace l Q 0 [(0, .ref 0)] [] q := by
  unfold F7_trace at h
  refine sx_aload_n dX7_trace_0 rfl rfl ?_
  refine sx_iconst (v := (0 : Int32)) dX7_trace_1 (by decide) ?_
  obtain ⟨q1, eq1, h⟩ := sx_lt h
  refine sx_putI dX7_trace_2 (hs := shM_0) (k9 := 0) (hf := rfl) cb_X7 ⟨by decide, rfl, gw_799⟩ rfl (by decide) ?_
  refine sx_nmQ eq1 ?_
  refine sx_aload_n dX7_trace_5 rfl rfl ?_
  refine sx_getL dX7_trace_6 (hs := shM_0) (k9 := 1) (hf := rfl) cb_X7 ⟨by decide, rfl, gw_800⟩ ?_
  obtain rfl := Option.some.inj h
  exact sx_lret dX7_trace_9 rfl hk9
theorem F7_trace_ck (l : Launch)   (q : SQ) {r : Int64 × SQ} (h : F7_trace   q = some r) : CK shM vwCl KM tfM l yX7_trace cX7_trace 1 ((some .long)) 0 0 [.ref 0] q (some (.long r.1)) r.2 :=
  CK.of mi_X7_trace (Nat.le_of_ble_eq_true rfl) (F7_trace_ok l   q h ⟨rfl, rfl⟩)
