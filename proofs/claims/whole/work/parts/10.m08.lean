theorem mi_X7_chart : sx_MI yX7_chart cX7_chart 5 ((some .int)) 0 := ⟨by decide, ⟨by decide, by decide, by decide +kernel⟩, gw_876, gw_68⟩
abbrev PF7_chart (l : Launch) (Q : Option Value → SQ → Prop) : Nat → List (Nat × Value) → List Value → SQ → Prop := XX shM vwCl KM tfM l RX7 cX7_chart 5 ((some .int)) { frames := 7, cells := 0, slots := 0, locals := 158 } Q
def F7_chart_205  (v1 : Int32) (q : SQ) : Option (Int32 × SQ) :=
  (F7_isWell   q).bind (fun z7 => (if z7.1 = 0 then some ((-10 : Int32) - (gI z7.2 0 8), z7.2) else (F7_adopts   z7.2).bind (fun z8 => sx_let (sI z8.2 0 3 (0 : Int32)) (fun q9 => some (v1, q9)))))
set_option maxHeartbeats 400000 in
theorem F7_chart_205_ok (l : Launch)  {Q : Option Value → SQ → Prop} (v1 : Int32) (q : SQ) {res : Int32 × SQ} (h : F7_chart_205  v1 q = some res) (hk9 : Q (some (.int res.1)) res.2) : PF7_chart l Q 205 [(0, .ref 0), (1, .int v1)] [] q := by
  unfold F7_chart_205 at h
  refine sx_aload_n dX7_chart_205 rfl rfl ?_
  obtain ⟨z7, hz7, h⟩ := sx_bd h
  refine sx_callV (o := 0) (As := []) (rest := []) KSM (F7_isWell_ck l   q hz7) mi_X7_isWell gw_895 rfl ⟨gw_897, gw_35⟩ shM_0 rfl rfl ⟨Nat.le_of_ble_eq_true rfl, Nat.le_of_ble_eq_true rfl⟩ (Nat.le_of_ble_eq_true rfl) dX7_chart_206 rfl ?_
  refine sx_if_ne (tgt := 220) dX7_chart_209 (by decide) (fun c9 => ?_) (fun c9 => ?_)
  · replace h := sx_in h c9
    refine sx_aload_n dX7_chart_220 rfl rfl ?_
    obtain ⟨z8, hz8, h⟩ := sx_bd h
    refine sx_callV (o := 0) (As := []) (rest := []) KSM (F7_adopts_ck l   z7.2 hz8) mi_X7_adopts gw_791 rfl ⟨gw_793, gw_31⟩ shM_0 rfl rfl ⟨Nat.le_of_ble_eq_true rfl, Nat.le_of_ble_eq_true rfl⟩ (Nat.le_of_ble_eq_true rfl) dX7_chart_221 rfl ?_
    refine sx_aload_n dX7_chart_224 rfl rfl ?_
    refine sx_iconst (v := (0 : Int32)) dX7_chart_225 (by decide) ?_
    obtain ⟨q9, eq9, h⟩ := sx_lt h
    refine sx_putI dX7_chart_226 (hs := shM_0) (k9 := 3) (hf := rfl) cb_X7 ⟨by decide, rfl, gw_802⟩ rfl (by decide) ?_
    refine sx_nmQ eq9 ?_
    refine sx_iload_n dX7_chart_229 rfl rfl ?_
    obtain rfl := Option.some.inj h
    exact sx_iret dX7_chart_230 rfl hk9
  · replace h := sx_ip h c9
    refine sx_bipush (v := (-10 : Int32)) dX7_chart_212 (by decide) ?_
    refine sx_aload_n dX7_chart_214 rfl rfl ?_
    refine sx_getI dX7_chart_215 (hs := shM_0) (k9 := 8) (hf := rfl) cb_X7 ⟨by decide, rfl, gw_807⟩ ?_
    refine sx_isub dX7_chart_218 ?_
    obtain rfl := Option.some.inj h
    exact sx_iret dX7_chart_219 rfl hk9
def F7_chart_195  (v1 : Int32) (v2 : Int32) (s0 : Int32) (q : SQ) : Option ((Int32 × Int32 × SQ) ⊕ (Int32 × SQ)) :=
  (F7_takes  s0 q).bind (fun z13 => sx_let (v1 + (1 : Int32)) (fun x14 => some (.inl (x14, v2, z13.2))))
set_option maxHeartbeats 400000 in
theorem F7_chart_195_ok (l : Launch)  {Q : Option Value → SQ → Prop} (v1 : Int32) (v2 : Int32) (s0 : Int32) (q : SQ) {res : (Int32 × Int32 × SQ) ⊕ (Int32 × SQ)} (h : F7_chart_195  v1 v2 s0 q = some res) (hk9 : (∀ a15, res = .inl a15 → PF7_chart l Q 27 [(0, .ref 0), (1, .int a15.1), (2, .int a15.2.1)] [] a15.2.2) ∧ (∀ b16, res = .inr b16 → Q (some (.int b16.1)) b16.2)) : PF7_chart l Q 195 [(0, .ref 0), (1, .int v1), (2, .int v2)] [.int s0, .ref 0] q := by
  unfold F7_chart_195 at h
  obtain ⟨z13, hz13, h⟩ := sx_bd h
  refine sx_callV (o := 0) (As := [.int s0]) (rest := []) KSM (F7_takes_ck l  s0 q hz13) mi_X7_takes gw_899 rfl ⟨gw_901, gw_36⟩ shM_0 rfl rfl ⟨Nat.le_of_ble_eq_true rfl, Nat.le_of_ble_eq_true rfl⟩ (Nat.le_of_ble_eq_true rfl) dX7_chart_195 rfl ?_
  refine sx_pop dX7_chart_198 rfl ?_
  obtain ⟨x14, ex14, h⟩ := sx_lt h
  refine sx_iinc (k9 := 1) (v := x14) (ls2 := [(1, .int x14), (0, .ref 0), (2, .int v2)]) dX7_chart_199 rfl (by rw [ex14, sx_ofI1]) (by decide) rfl ?_
  refine sx_goto (tgt := 27) dX7_chart_202 (by decide) ?_
  refine sx_locs [1, 0, 2] rfl ?_
  exact hk9.1 (x14, v2, z13.2) (Option.some.inj h).symm
def F7_chart_181  (v1 : Int32) (v2 : Int32) (q : SQ) : Option ((Int32 × Int32 × SQ) ⊕ (Int32 × SQ)) :=
  (if gI q 0 5 = (3 : Int32) then F7_chart_195  v1 v2 (1 : Int32) q else F7_chart_195  v1 v2 (0 : Int32) q)
set_option maxHeartbeats 400000 in
theorem F7_chart_181_ok (l : Launch)  {Q : Option Value → SQ → Prop} (v1 : Int32) (v2 : Int32) (q : SQ) {res : (Int32 × Int32 × SQ) ⊕ (Int32 × SQ)} (h : F7_chart_181  v1 v2 q = some res) (hk9 : (∀ a17, res = .inl a17 → PF7_chart l Q 27 [(0, .ref 0), (1, .int a17.1), (2, .int a17.2.1)] [] a17.2.2) ∧ (∀ b18, res = .inr b18 → Q (some (.int b18.1)) b18.2)) : PF7_chart l Q 181 [(0, .ref 0), (1, .int v1), (2, .int v2)] [] q := by
  unfold F7_chart_181 at h
  refine sx_aload_n dX7_chart_181 rfl rfl ?_
  refine sx_aload_n dX7_chart_182 rfl rfl ?_
  refine sx_getI dX7_chart_183 (hs := shM_0) (k9 := 5) (hf := rfl) cb_X7 ⟨by decide, rfl, gw_804⟩ ?_
  refine sx_iconst (v := (3 : Int32)) dX7_chart_186 (by decide) ?_
  refine sx_icmp_ne (tgt := 194) dX7_chart_187 (by decide) (fun c9 => ?_) (fun c9 => ?_)
  · replace h := sx_in h c9
    refine sx_iconst (v := (0 : Int32)) dX7_chart_194 (by decide) ?_
    exact F7_chart_195_ok l  v1 v2 (0 : Int32) q h hk9
  · replace h := sx_ip h c9
    refine sx_iconst (v := (1 : Int32)) dX7_chart_190 (by decide) ?_
    refine sx_goto (tgt := 195) dX7_chart_191 (by decide) ?_
    exact F7_chart_195_ok l  v1 v2 (1 : Int32) q h hk9
def F7_chart_174  (v1 : Int32) (v4 : Int32) (s0 : Int32) (q : SQ) : Option ((Int32 × Int32 × SQ) ⊕ (Int32 × SQ)) :=
  (F7_readsItem  v4 q).bind (fun z19 => F7_chart_181  v1 s0 z19.2)
set_option maxHeartbeats 400000 in
theorem F7_chart_174_ok (l : Launch)  {Q : Option Value → SQ → Prop} (v1 : Int32) (v4 : Int32) (s0 : Int32) (q : SQ) {res : (Int32 × Int32 × SQ) ⊕ (Int32 × SQ)} (h : F7_chart_174  v1 v4 s0 q = some res) (hk9 : (∀ a20, res = .inl a20 → PF7_chart l Q 27 [(0, .ref 0), (1, .int a20.1), (2, .int a20.2.1)] [] a20.2.2) ∧ (∀ b21, res = .inr b21 → Q (some (.int b21.1)) b21.2)) : PF7_chart l Q 174 [(0, .ref 0), (1, .int v1), (4, .int v4)] [.int s0] q := by
  unfold F7_chart_174 at h
  refine sx_istore_n (ls2 := [(2, .int s0), (0, .ref 0), (1, .int v1), (4, .int v4)]) dX7_chart_174 rfl (by decide) rfl ?_
  refine sx_aload_n dX7_chart_175 rfl rfl ?_
  refine sx_iload dX7_chart_176 rfl ?_
  obtain ⟨z19, hz19, h⟩ := sx_bd h
  refine sx_callV (o := 0) (As := [.int v4]) (rest := []) KSM (F7_readsItem_ck l  v4 q hz19) mi_X7_readsItem gw_903 rfl ⟨gw_905, gw_37⟩ shM_0 rfl rfl ⟨Nat.le_of_ble_eq_true rfl, Nat.le_of_ble_eq_true rfl⟩ (Nat.le_of_ble_eq_true rfl) dX7_chart_178 rfl ?_
  refine sx_locs [1, 2, 0] rfl ?_
  exact F7_chart_181_ok l  v1 s0 z19.2 h hk9
def F7_chart_169  (v1 : Int32) (v4 : Int32) (q : SQ) : Option ((Int32 × Int32 × SQ) ⊕ (Int32 × SQ)) :=
  F7_chart_174  v1 v4 (1 : Int32) q
set_option maxHeartbeats 400000 in
theorem F7_chart_169_ok (l : Launch)  {Q : Option Value → SQ → Prop} (v1 : Int32) (v4 : Int32) (q : SQ) {res : (Int32 × Int32 × SQ) ⊕ (Int32 × SQ)} (h : F7_chart_169  v1 v4 q = some res) (hk9 : (∀ a22, res = .inl a22 → PF7_chart l Q 27 [(0, .ref 0), (1, .int a22.1), (2, .int a22.2.1)] [] a22.2.2) ∧ (∀ b23, res = .inr b23 → Q (some (.int b23.1)) b23.2)) : PF7_chart l Q 169 [(0, .ref 0), (1, .int v1), (4, .int v4)] [] q := by
  unfold F7_chart_169 at h
  refine sx_iconst (v := (1 : Int32)) dX7_chart_169 (by decide) ?_
  refine sx_goto (tgt := 174) dX7_chart_170 (by decide) ?_
  exact F7_chart_174_ok l  v1 v4 (1 : Int32) q h hk9
def F7_chart_147  (v1 : Int32) (v2 : Int32) (s0 : Int32) (q : SQ) : Option ((Int32 × Int32 × SQ) ⊕ (Int32 × SQ)) :=
  (F7_takes  s0 q).bind (fun z10 => sx_let z10.1 (fun x11 => (F7_isWell   z10.2).bind (fun z12 => (if z12.1 = 0 then F7_chart_181  v1 v2 z12.2 else (if v2 = 0 then (if x11 = (2 : Int32) then F7_chart_169  v1 x11 z12.2 else F7_chart_174  v1 x11 (0 : Int32) z12.2) else F7_chart_169  v1 x11 z12.2)))))
set_option maxHeartbeats 400000 in
theorem F7_chart_147_ok (l : Launch)  {Q : Option Value → SQ → Prop} (v1 : Int32) (v2 : Int32) (s0 : Int32) (q : SQ) {res : (Int32 × Int32 × SQ) ⊕ (Int32 × SQ)} (h : F7_chart_147  v1 v2 s0 q = some res) (hk9 : (∀ a24, res = .inl a24 → PF7_chart l Q 27 [(0, .ref 0), (1, .int a24.1), (2, .int a24.2.1)] [] a24.2.2) ∧ (∀ b25, res = .inr b25 → Q (some (.int b25.1)) b25.2)) : PF7_chart l Q 147 [(0, .ref 0), (1, .int v1), (2, .int v2)] [.int s0, .ref 0] q := by
  unfold F7_chart_147 at h
  obtain ⟨z10, hz10, h⟩ := sx_bd h
  refine sx_callV (o := 0) (As := [.int s0]) (rest := []) KSM (F7_takes_ck l  s0 q hz10) mi_X7_takes gw_899 rfl ⟨gw_901, gw_36⟩ shM_0 rfl rfl ⟨Nat.le_of_ble_eq_true rfl, Nat.le_of_ble_eq_true rfl⟩ (Nat.le_of_ble_eq_true rfl) dX7_chart_147 rfl ?_
  obtain ⟨x11, ex11, h⟩ := sx_lt h
  refine sx_nmI ex11 ?_
  refine sx_istore (ls2 := [(4, .int x11), (0, .ref 0), (1, .int v1), (2, .int v2)]) dX7_chart_150 (by decide) rfl ?_
  refine sx_aload_n dX7_chart_152 rfl rfl ?_
  obtain ⟨z12, hz12, h⟩ := sx_bd h
  refine sx_callV (o := 0) (As := []) (rest := []) KSM (F7_isWell_ck l   z10.2 hz12) mi_X7_isWell gw_895 rfl ⟨gw_897, gw_35⟩ shM_0 rfl rfl ⟨Nat.le_of_ble_eq_true rfl, Nat.le_of_ble_eq_true rfl⟩ (Nat.le_of_ble_eq_true rfl) dX7_chart_153 rfl ?_
  refine sx_if_eq (tgt := 181) dX7_chart_156 (by decide) (fun c9 => ?_) (fun c9 => ?_)
  · replace h := sx_ip h c9
    refine sx_locs [1, 2, 3] rfl ?_
    exact F7_chart_181_ok l  v1 v2 z12.2 h hk9
  · replace h := sx_in h c9
    refine sx_iload_n dX7_chart_159 rfl rfl ?_
    refine sx_if_ne (tgt := 169) dX7_chart_160 (by decide) (fun c9 => ?_) (fun c9 => ?_)
    · replace h := sx_in h c9
      refine sx_locs [1, 2, 0] rfl ?_
      exact F7_chart_169_ok l  v1 x11 z12.2 h hk9
    · replace h := sx_ip h c9
      refine sx_iload dX7_chart_163 rfl ?_
      refine sx_iconst (v := (2 : Int32)) dX7_chart_165 (by decide) ?_
      refine sx_icmp_ne (tgt := 173) dX7_chart_166 (by decide) (fun c9 => ?_) (fun c9 => ?_)
      · replace h := sx_in h c9
        refine sx_iconst (v := (0 : Int32)) dX7_chart_173 (by decide) ?_
        refine sx_locs [1, 2, 0] rfl ?_
        exact F7_chart_174_ok l  v1 x11 (0 : Int32) z12.2 h hk9
      · replace h := sx_ip h c9
        refine sx_locs [1, 2, 0] rfl ?_
        exact F7_chart_169_ok l  v1 x11 z12.2 h hk9
def F7_chart_146  (v1 : Int32) (v2 : Int32) (q : SQ) : Option ((Int32 × Int32 × SQ) ⊕ (Int32 × SQ)) :=
  F7_chart_147  v1 v2 (0 : Int32) q
set_option maxHeartbeats 400000 in
theorem F7_chart_146_ok (l : Launch)  {Q : Option Value → SQ → Prop} (v1 : Int32) (v2 : Int32) (q : SQ) {res : (Int32 × Int32 × SQ) ⊕ (Int32 × SQ)} (h : F7_chart_146  v1 v2 q = some res) (hk9 : (∀ a26, res = .inl a26 → PF7_chart l Q 27 [(0, .ref 0), (1, .int a26.1), (2, .int a26.2.1)] [] a26.2.2) ∧ (∀ b27, res = .inr b27 → Q (some (.int b27.1)) b27.2)) : PF7_chart l Q 146 [(0, .ref 0), (1, .int v1), (2, .int v2)] [.ref 0] q := by
  unfold F7_chart_146 at h
  refine sx_iconst (v := (0 : Int32)) dX7_chart_146 (by decide) ?_
  exact F7_chart_147_ok l  v1 v2 (0 : Int32) q h hk9
def F7_chart_128  (v1 : Int32) (v2 : Int32) (s0 : Int32) (q : SQ) : Option ((Int32 × Int32 × SQ) ⊕ (Int32 × SQ)) :=
  (if gI q 0 5 = (1 : Int32) then (if s0 = 0 then F7_chart_146  v1 v2 q else F7_chart_147  v1 v2 (1 : Int32) q) else F7_chart_146  v1 v2 q)
set_option maxHeartbeats 400000 in
theorem F7_chart_128_ok (l : Launch)  {Q : Option Value → SQ → Prop} (v1 : Int32) (v2 : Int32) (s0 : Int32) (q : SQ) {res : (Int32 × Int32 × SQ) ⊕ (Int32 × SQ)} (h : F7_chart_128  v1 v2 s0 q = some res) (hk9 : (∀ a28, res = .inl a28 → PF7_chart l Q 27 [(0, .ref 0), (1, .int a28.1), (2, .int a28.2.1)] [] a28.2.2) ∧ (∀ b29, res = .inr b29 → Q (some (.int b29.1)) b29.2)) : PF7_chart l Q 128 [(0, .ref 0), (1, .int v1), (2, .int v2)] [.int s0] q := by
  unfold F7_chart_128 at h
  refine sx_istore_n (ls2 := [(3, .int s0), (0, .ref 0), (1, .int v1), (2, .int v2)]) dX7_chart_128 rfl (by decide) rfl ?_
  refine sx_aload_n dX7_chart_129 rfl rfl ?_
  refine sx_aload_n dX7_chart_130 rfl rfl ?_
  refine sx_getI dX7_chart_131 (hs := shM_0) (k9 := 5) (hf := rfl) cb_X7 ⟨by decide, rfl, gw_804⟩ ?_
  refine sx_iconst (v := (1 : Int32)) dX7_chart_134 (by decide) ?_
  refine sx_icmp_ne (tgt := 146) dX7_chart_135 (by decide) (fun c9 => ?_) (fun c9 => ?_)
  · replace h := sx_in h c9
    refine sx_locs [1, 2, 3] rfl ?_
    exact F7_chart_146_ok l  v1 v2 q h hk9
  · replace h := sx_ip h c9
    refine sx_iload_n dX7_chart_138 rfl rfl ?_
    refine sx_if_eq (tgt := 146) dX7_chart_139 (by decide) (fun c9 => ?_) (fun c9 => ?_)
    · replace h := sx_ip h c9
      refine sx_locs [1, 2, 3] rfl ?_
      exact F7_chart_146_ok l  v1 v2 q h hk9
    · replace h := sx_in h c9
      refine sx_iconst (v := (1 : Int32)) dX7_chart_142 (by decide) ?_
      refine sx_goto (tgt := 147) dX7_chart_143 (by decide) ?_
      refine sx_locs [1, 2, 3] rfl ?_
      exact F7_chart_147_ok l  v1 v2 (1 : Int32) q h hk9
def F7_chart_27b  (v1 : Int32) (v2 : Int32) (q : SQ) : Option ((Int32 × Int32 × SQ) ⊕ (Int32 × SQ)) :=
  (F7_isWell   q).bind (fun z6 => (if z6.1 = 0 then (F7_chart_205  v1 z6.2).map .inr else (if gI z6.2 0 5 = 0 then (F7_chart_205  v1 z6.2).map .inr else (if gI z6.2 0 7 = 0 then (if (8 : Int32) ≤ gI z6.2 2 82 then F7_chart_128  v1 v2 (0 : Int32) z6.2 else F7_chart_128  v1 v2 (1 : Int32) z6.2) else (if gI z6.2 0 7 = (1 : Int32) then (if (4 : Int32) ≤ gI z6.2 2 83 then F7_chart_128  v1 v2 (0 : Int32) z6.2 else F7_chart_128  v1 v2 (1 : Int32) z6.2) else (if gI z6.2 0 7 = (2 : Int32) then (if v2 = 0 then F7_chart_128  v1 v2 (1 : Int32) z6.2 else F7_chart_128  v1 v2 (0 : Int32) z6.2) else (if gI z6.2 0 7 = (5 : Int32) then F7_chart_128  v1 v2 (1 : Int32) z6.2 else F7_chart_128  v1 v2 (0 : Int32) z6.2)))))))
set_option maxHeartbeats 400000 in
theorem F7_chart_27b_ok (l : Launch)  {Q : Option Value → SQ → Prop} (v1 : Int32) (v2 : Int32) (q : SQ) {res : (Int32 × Int32 × SQ) ⊕ (Int32 × SQ)} (h : F7_chart_27b  v1 v2 q = some res) (hk9 : (∀ a30, res = .inl a30 → PF7_chart l Q 27 [(0, .ref 0), (1, .int a30.1), (2, .int a30.2.1)] [] a30.2.2) ∧ (∀ b31, res = .inr b31 → Q (some (.int b31.1)) b31.2)) : PF7_chart l Q 27 [(0, .ref 0), (1, .int v1), (2, .int v2)] [] q := by
  unfold F7_chart_27b at h
  refine sx_aload_n dX7_chart_27 rfl rfl ?_
  obtain ⟨z6, hz6, h⟩ := sx_bd h
  refine sx_callV (o := 0) (As := []) (rest := []) KSM (F7_isWell_ck l   q hz6) mi_X7_isWell gw_895 rfl ⟨gw_897, gw_35⟩ shM_0 rfl rfl ⟨Nat.le_of_ble_eq_true rfl, Nat.le_of_ble_eq_true rfl⟩ (Nat.le_of_ble_eq_true rfl) dX7_chart_28 rfl ?_
  refine sx_if_eq (tgt := 205) dX7_chart_31 (by decide) (fun c9 => ?_) (fun c9 => ?_)
  · replace h := sx_ip h c9
    obtain ⟨t9, h, hr9⟩ := sx_mp h
    have hk9 := hk9.2 _ hr9
    refine sx_locs [0, 1] rfl ?_
    exact F7_chart_205_ok l  v1 z6.2 h hk9
  · replace h := sx_in h c9
    refine sx_aload_n dX7_chart_34 rfl rfl ?_
    refine sx_getI dX7_chart_35 (hs := shM_0) (k9 := 5) (hf := rfl) cb_X7 ⟨by decide, rfl, gw_804⟩ ?_
    refine sx_if_eq (tgt := 205) dX7_chart_38 (by decide) (fun c9 => ?_) (fun c9 => ?_)
    · replace h := sx_ip h c9
      obtain ⟨t9, h, hr9⟩ := sx_mp h
      have hk9 := hk9.2 _ hr9
      refine sx_locs [0, 1] rfl ?_
      exact F7_chart_205_ok l  v1 z6.2 h hk9
    · replace h := sx_in h c9
      refine sx_aload_n dX7_chart_41 rfl rfl ?_
      refine sx_getI dX7_chart_42 (hs := shM_0) (k9 := 7) (hf := rfl) cb_X7 ⟨by decide, rfl, gw_806⟩ ?_
      refine sx_if_ne (tgt := 68) dX7_chart_45 (by decide) (fun c9 => ?_) (fun c9 => ?_)
      · replace h := sx_in h c9
        refine sx_aload_n dX7_chart_68 rfl rfl ?_
        refine sx_getI dX7_chart_69 (hs := shM_0) (k9 := 7) (hf := rfl) cb_X7 ⟨by decide, rfl, gw_806⟩ ?_
        refine sx_iconst (v := (1 : Int32)) dX7_chart_72 (by decide) ?_
        refine sx_icmp_ne (tgt := 95) dX7_chart_73 (by decide) (fun c9 => ?_) (fun c9 => ?_)
        · replace h := sx_in h c9
          refine sx_aload_n dX7_chart_95 rfl rfl ?_
          refine sx_getI dX7_chart_96 (hs := shM_0) (k9 := 7) (hf := rfl) cb_X7 ⟨by decide, rfl, gw_806⟩ ?_
          refine sx_iconst (v := (2 : Int32)) dX7_chart_99 (by decide) ?_
          refine sx_icmp_ne (tgt := 115) dX7_chart_100 (by decide) (fun c9 => ?_) (fun c9 => ?_)
          · replace h := sx_in h c9
            refine sx_aload_n dX7_chart_115 rfl rfl ?_
            refine sx_getI dX7_chart_116 (hs := shM_0) (k9 := 7) (hf := rfl) cb_X7 ⟨by decide, rfl, gw_806⟩ ?_
            refine sx_iconst (v := (5 : Int32)) dX7_chart_119 (by decide) ?_
            refine sx_icmp_ne (tgt := 127) dX7_chart_120 (by decide) (fun c9 => ?_) (fun c9 => ?_)
            · replace h := sx_in h c9
              refine sx_iconst (v := (0 : Int32)) dX7_chart_127 (by decide) ?_
              exact F7_chart_128_ok l  v1 v2 (0 : Int32) z6.2 h hk9
            · replace h := sx_ip h c9
              refine sx_iconst (v := (1 : Int32)) dX7_chart_123 (by decide) ?_
              refine sx_goto (tgt := 128) dX7_chart_124 (by decide) ?_
              exact F7_chart_128_ok l  v1 v2 (1 : Int32) z6.2 h hk9
          · replace h := sx_ip h c9
            refine sx_iload_n dX7_chart_103 rfl rfl ?_
            refine sx_if_ne (tgt := 111) dX7_chart_104 (by decide) (fun c9 => ?_) (fun c9 => ?_)
            · replace h := sx_in h c9
              refine sx_iconst (v := (0 : Int32)) dX7_chart_111 (by decide) ?_
              refine sx_goto (tgt := 128) dX7_chart_112 (by decide) ?_
              exact F7_chart_128_ok l  v1 v2 (0 : Int32) z6.2 h hk9
            · replace h := sx_ip h c9
              refine sx_iconst (v := (1 : Int32)) dX7_chart_107 (by decide) ?_
              refine sx_goto (tgt := 128) dX7_chart_108 (by decide) ?_
              exact F7_chart_128_ok l  v1 v2 (1 : Int32) z6.2 h hk9
        · replace h := sx_ip h c9
          refine sx_aload_n dX7_chart_76 rfl rfl ?_
          refine sx_getR dX7_chart_77 (hs := shM_0) (k9 := 9) (hf := rfl) cb_X7 ⟨by decide, rfl, gw_808⟩ ?_
          refine sx_bipush (v := (83 : Int32)) dX7_chart_80 (by decide) ?_
          refine sx_ialdC (j9 := 83) dX7_chart_82 shM_2 (fun _ _ => rfl) (by decide) (by decide) ?_
          refine sx_iconst (v := (4 : Int32)) dX7_chart_83 (by decide) ?_
          refine sx_icmp_ge (tgt := 91) dX7_chart_84 (by decide) (fun c9 => ?_) (fun c9 => ?_)
          · replace h := sx_ip h c9
            refine sx_iconst (v := (0 : Int32)) dX7_chart_91 (by decide) ?_
            refine sx_goto (tgt := 128) dX7_chart_92 (by decide) ?_
            exact F7_chart_128_ok l  v1 v2 (0 : Int32) z6.2 h hk9
          · replace h := sx_in h c9
            refine sx_iconst (v := (1 : Int32)) dX7_chart_87 (by decide) ?_
            refine sx_goto (tgt := 128) dX7_chart_88 (by decide) ?_
            exact F7_chart_128_ok l  v1 v2 (1 : Int32) z6.2 h hk9
      · replace h := sx_ip h c9
        refine sx_aload_n dX7_chart_48 rfl rfl ?_
        refine sx_getR dX7_chart_49 (hs := shM_0) (k9 := 9) (hf := rfl) cb_X7 ⟨by decide, rfl, gw_808⟩ ?_
        refine sx_bipush (v := (82 : Int32)) dX7_chart_52 (by decide) ?_
        refine sx_ialdC (j9 := 82) dX7_chart_54 shM_2 (fun _ _ => rfl) (by decide) (by decide) ?_
        refine sx_bipush (v := (8 : Int32)) dX7_chart_55 (by decide) ?_
        refine sx_icmp_ge (tgt := 64) dX7_chart_57 (by decide) (fun c9 => ?_) (fun c9 => ?_)
        · replace h := sx_ip h c9
          refine sx_iconst (v := (0 : Int32)) dX7_chart_64 (by decide) ?_
          refine sx_goto (tgt := 128) dX7_chart_65 (by decide) ?_
          exact F7_chart_128_ok l  v1 v2 (0 : Int32) z6.2 h hk9
        · replace h := sx_in h c9
          refine sx_iconst (v := (1 : Int32)) dX7_chart_60 (by decide) ?_
          refine sx_goto (tgt := 128) dX7_chart_61 (by decide) ?_
          exact F7_chart_128_ok l  v1 v2 (1 : Int32) z6.2 h hk9
def F7_chart_27  (v1 : Int32) (v2 : Int32) (q : SQ) : Option (Int32 × SQ) := sx_loop (fun s32 => F7_chart_27b  s32.1 s32.2.1 s32.2.2) FU (v1, v2, q)
set_option maxHeartbeats 400000 in
theorem F7_chart_27_ok (l : Launch)  {Q : Option Value → SQ → Prop} (v1 : Int32) (v2 : Int32) (q : SQ) {t : Int32 × SQ} (h : F7_chart_27  v1 v2 q = some t) (hk9 : Q (some (.int t.1)) t.2) : PF7_chart l Q 27 [(0, .ref 0), (1, .int v1), (2, .int v2)] [] q := by
  unfold F7_chart_27 at h
  have st : ∀ (s : Int32 × Int32 × SQ) (res : (Int32 × Int32 × SQ) ⊕ (Int32 × SQ)), F7_chart_27b  s.1 s.2.1 s.2.2 = some res → (∀ s2, res = .inl s2 → PF7_chart l Q 27 [(0, .ref 0), (1, .int s2.1), (2, .int s2.2.1)] [] s2.2.2) → (∀ t2, res = .inr t2 → Q (some (.int t2.1)) t2.2) → PF7_chart l Q 27 [(0, .ref 0), (1, .int s.1), (2, .int s.2.1)] [] s.2.2 :=
    fun s res hb hi ho => F7_chart_27b_ok l  s.1 s.2.1 s.2.2 hb ⟨hi, ho⟩
  have h9 : PF7_chart l Q 27 [(0, .ref 0), (1, .int v1), (2, .int v2)] [] q := sx_lp (body := fun s => F7_chart_27b  s.1 s.2.1 s.2.2) (P := fun s => PF7_chart l Q 27 [(0, .ref 0), (1, .int s.1), (2, .int s.2.1)] [] s.2.2) (T := fun t => Q (some (.int t.1)) t.2) st FU (v1, v2, q) t h hk9
  exact h9
def F7_chart   (q : SQ) : Option (Int32 × SQ) :=
  sx_let (sI q 0 0 (0 : Int32)) (fun q1 => sx_let (sI q1 0 8 (-1 : Int32)) (fun q2 => sx_let (sI q2 0 4 (0 : Int32)) (fun q3 => (F7_drafts   q3).bind (fun z4 => (F7_advances   z4.2).bind (fun z5 => F7_chart_27  (0 : Int32) (0 : Int32) z5.2)))))
set_option maxHeartbeats 400000 in
theorem F7_chart_ok (l : Launch)  {Q : Option Value → SQ → Prop}  (q : SQ) {res : Int32 × SQ} (h : F7_chart   q = some res) (hk9 : Q (some (.int res.1)) res.2) : PF7_chart l Q 0 [(0, .ref 0)] [] q := by
  unfold F7_chart at h
  refine sx_aload_n dX7_chart_0 rfl rfl ?_
  refine sx_iconst (v := (0 : Int32)) dX7_chart_1 (by decide) ?_
  obtain ⟨q1, eq1, h⟩ := sx_lt h
  refine sx_putI dX7_chart_2 (hs := shM_0) (k9 := 0) (hf := rfl) cb_X7 ⟨by decide, rfl, gw_799⟩ rfl (by decide) ?_
  refine sx_nmQ eq1 ?_
  refine sx_aload_n dX7_chart_5 rfl rfl ?_
  refine sx_iconst (v := (-1 : Int32)) dX7_chart_6 (by decide) ?_
  obtain ⟨q2, eq2, h⟩ := sx_lt h
  refine sx_putI dX7_chart_7 (hs := shM_0) (k9 := 8) (hf := rfl) cb_X7 ⟨by decide, rfl, gw_807⟩ rfl (by decide) ?_
  refine sx_nmQ eq2 ?_
  refine sx_aload_n dX7_chart_10 rfl rfl ?_
  refine sx_iconst (v := (0 : Int32)) dX7_chart_11 (by decide) ?_
  obtain ⟨q3, eq3, h⟩ := sx_lt h
  refine sx_putI dX7_chart_12 (hs := shM_0) (k9 := 4) (hf := rfl) cb_X7 ⟨by decide, rfl, gw_803⟩ rfl (by decide) ?_
  refine sx_nmQ eq3 ?_
  refine sx_iconst (v := (0 : Int32)) dX7_chart_15 (by decide) ?_
  refine sx_istore_n (ls2 := [(1, .int (0 : Int32)), (0, .ref 0)]) dX7_chart_16 rfl (by decide) rfl ?_
  refine sx_iconst (v := (0 : Int32)) dX7_chart_17 (by decide) ?_
  refine sx_istore_n (ls2 := [(2, .int (0 : Int32)), (1, .int (0 : Int32)), (0, .ref 0)]) dX7_chart_18 rfl (by decide) rfl ?_
  refine sx_aload_n dX7_chart_19 rfl rfl ?_
  obtain ⟨z4, hz4, h⟩ := sx_bd h
  refine sx_callV (o := 0) (As := []) (rest := []) KSM (F7_drafts_ck l   q3 hz4) mi_X7_drafts gw_787 rfl ⟨gw_789, gw_30⟩ shM_0 rfl rfl ⟨Nat.le_of_ble_eq_true rfl, Nat.le_of_ble_eq_true rfl⟩ (Nat.le_of_ble_eq_true rfl) dX7_chart_20 rfl ?_
  refine sx_aload_n dX7_chart_23 rfl rfl ?_
  obtain ⟨z5, hz5, h⟩ := sx_bd h
  refine sx_callV (o := 0) (As := []) (rest := []) KSM (F7_advances_ck l   z4.2 hz5) mi_X7_advances gw_877 rfl ⟨gw_879, gw_33⟩ shM_0 rfl rfl ⟨Nat.le_of_ble_eq_true rfl, Nat.le_of_ble_eq_true rfl⟩ (Nat.le_of_ble_eq_true rfl) dX7_chart_24 rfl ?_
  refine sx_locs [2, 1, 0] rfl ?_
  exact F7_chart_27_ok l  (0 : Int32) (0 : Int32) z5.2 h hk9
theorem F7_chart_ck (l : Launch)   (q : SQ) {r : Int32 × SQ} (h : F7_chart   q = some r) : CK shM vwCl KM tfM l yX7_chart cX7_chart 5 ((some .int)) 7 158 [.ref 0] q (some (.int r.1)) r.2 :=
  CK.of mi_X7_chart (Nat.le_of_ble_eq_true rfl) (F7_chart_ok l   q h ⟨rfl, rfl⟩)
theorem mi_X7_isChild : sx_MI yX7_isChild cX7_isChild 2 ((some .boolean)) 1 := ⟨by decide, ⟨by decide, by decide, by decide +kernel⟩, gw_922, gw_68⟩
abbrev PF7_isChild (l : Launch) (Q : Option Value → SQ → Prop) : Nat → List (Nat × Value) → List Value → SQ → Prop := XX shM vwCl KM tfM l RX7 cX7_isChild 2 ((some .boolean)) { frames := 1, cells := 0, slots := 0, locals := 22 } Q
def F7_isChild  (v1 : Int32) (q : SQ) : Option (Int32 × SQ) :=
  (F7_in  v1 (0 : Int32) ((gI q 2 40) - (1 : Int32)) q).bind (fun z1 => (if sx_bt z1.1 = true then some (z1.1, z1.2) else none))
set_option maxHeartbeats 400000 in
theorem F7_isChild_ok (l : Launch)  {Q : Option Value → SQ → Prop} (v1 : Int32) (q : SQ) {res : Int32 × SQ} (h : F7_isChild  v1 q = some res) (hk9 : Q (some (.int res.1)) res.2) : PF7_isChild l Q 0 [(0, .ref 0), (1, .int v1)] [] q := by
  unfold F7_isChild at h
  refine sx_iload_n dX7_isChild_0 rfl rfl ?_
  refine sx_iconst (v := (0 : Int32)) dX7_isChild_1 (by decide) ?_
  refine sx_aload_n dX7_isChild_2 rfl rfl ?_
  refine sx_getR dX7_isChild_3 (hs := shM_0) (k9 := 9) (hf := rfl) cb_X7 ⟨by decide, rfl, gw_808⟩ ?_
  refine sx_bipush (v := (40 : Int32)) dX7_isChild_6 (by decide) ?_
  refine sx_ialdC (j9 := 40) dX7_isChild_8 shM_2 (fun _ _ => rfl) (by decide) (by decide) ?_
  refine sx_iconst (v := (1 : Int32)) dX7_isChild_9 (by decide) ?_
  refine sx_isub dX7_isChild_10 ?_
  obtain ⟨z1, hz1, h⟩ := sx_bd h
  refine sx_callS (As := [.int v1, .int (0 : Int32), .int ((gI q 2 40) - (1 : Int32))]) (rest := []) KSM (F7_in_ck l  v1 (0 : Int32) ((gI q 2 40) - (1 : Int32)) q hz1) mi_X7_in gw_865 rfl gw_866 ⟨Nat.le_of_ble_eq_true rfl, Nat.le_of_ble_eq_true rfl⟩ (Nat.le_of_ble_eq_true rfl) dX7_isChild_11 rfl ?_
  obtain ⟨g9, h⟩ := sx_gd h
  obtain rfl := Option.some.inj h
  exact sx_zret dX7_isChild_14 rfl (sx_bit g9) hk9
theorem F7_isChild_ck (l : Launch)  (v1 : Int32) (q : SQ) {r : Int32 × SQ} (h : F7_isChild  v1 q = some r) : CK shM vwCl KM tfM l yX7_isChild cX7_isChild 2 ((some .boolean)) 1 22 [.ref 0, .int v1] q (some (.int r.1)) r.2 :=
  CK.of mi_X7_isChild (Nat.le_of_ble_eq_true rfl) (F7_isChild_ok l  v1 q h ⟨rfl, rfl⟩)
theorem mi_X7_isSort : sx_MI yX7_isSort cX7_isSort 2 ((some .boolean)) 1 := ⟨by decide, ⟨by decide, by decide, by decide +kernel⟩, gw_930, gw_68⟩
abbrev PF7_isSort (l : Launch) (Q : Option Value → SQ → Prop) : Nat → List (Nat × Value) → List Value → SQ → Prop := XX shM vwCl KM tfM l RX7 cX7_isSort 2 ((some .boolean)) { frames := 1, cells := 0, slots := 0, locals := 22 } Q
def F7_isSort  (v1 : Int32) (q : SQ) : Option (Int32 × SQ) :=
  (F7_in  v1 (0 : Int32) ((gI q 2 41) - (1 : Int32)) q).bind (fun z1 => (if sx_bt z1.1 = true then some (z1.1, z1.2) else none))
set_option maxHeartbeats 400000 in
theorem F7_isSort_ok (l : Launch)  {Q : Option Value → SQ → Prop} (v1 : Int32) (q : SQ) {res : Int32 × SQ} (h : F7_isSort  v1 q = some res) (hk9 : Q (some (.int res.1)) res.2) : PF7_isSort l Q 0 [(0, .ref 0), (1, .int v1)] [] q := by
  unfold F7_isSort at h
  refine sx_iload_n dX7_isSort_0 rfl rfl ?_
  refine sx_iconst (v := (0 : Int32)) dX7_isSort_1 (by decide) ?_
  refine sx_aload_n dX7_isSort_2 rfl rfl ?_
  refine sx_getR dX7_isSort_3 (hs := shM_0) (k9 := 9) (hf := rfl) cb_X7 ⟨by decide, rfl, gw_808⟩ ?_
  refine sx_bipush (v := (41 : Int32)) dX7_isSort_6 (by decide) ?_
  refine sx_ialdC (j9 := 41) dX7_isSort_8 shM_2 (fun _ _ => rfl) (by decide) (by decide) ?_
  refine sx_iconst (v := (1 : Int32)) dX7_isSort_9 (by decide) ?_
  refine sx_isub dX7_isSort_10 ?_
  obtain ⟨z1, hz1, h⟩ := sx_bd h
  refine sx_callS (As := [.int v1, .int (0 : Int32), .int ((gI q 2 41) - (1 : Int32))]) (rest := []) KSM (F7_in_ck l  v1 (0 : Int32) ((gI q 2 41) - (1 : Int32)) q hz1) mi_X7_in gw_865 rfl gw_866 ⟨Nat.le_of_ble_eq_true rfl, Nat.le_of_ble_eq_true rfl⟩ (Nat.le_of_ble_eq_true rfl) dX7_isSort_11 rfl ?_
  obtain ⟨g9, h⟩ := sx_gd h
  obtain rfl := Option.some.inj h
  exact sx_zret dX7_isSort_14 rfl (sx_bit g9) hk9
theorem F7_isSort_ck (l : Launch)  (v1 : Int32) (q : SQ) {r : Int32 × SQ} (h : F7_isSort  v1 q = some r) : CK shM vwCl KM tfM l yX7_isSort cX7_isSort 2 ((some .boolean)) 1 22 [.ref 0, .int v1] q (some (.int r.1)) r.2 :=
  CK.of mi_X7_isSort (Nat.le_of_ble_eq_true rfl) (F7_isSort_ok l  v1 q h ⟨rfl, rfl⟩)
theorem mi_X7_isDay : sx_MI yX7_isDay cX7_isDay 1 ((some .boolean)) 1 := ⟨by decide, ⟨by decide, by decide, by decide +kernel⟩, gw_945, gw_68⟩
abbrev PF7_isDay (l : Launch) (Q : Option Value → SQ → Prop) : Nat → List (Nat × Value) → List Value → SQ → Prop := XX shM vwCl KM tfM l RX7 cX7_isDay 1 ((some .boolean)) { frames := 1, cells := 0, slots := 0, locals := 22 } Q
def F7_isDay  (v0 : Int32) (q : SQ) : Option (Int32 × SQ) :=
  (F7_in  v0 (0 : Int32) (99 : Int32) q).bind (fun z1 => (if sx_bt z1.1 = true then some (z1.1, z1.2) else none))
set_option maxHeartbeats 400000 in
theorem F7_isDay_ok (l : Launch)  {Q : Option Value → SQ → Prop} (v0 : Int32) (q : SQ) {res : Int32 × SQ} (h : F7_isDay  v0 q = some res) (hk9 : Q (some (.int res.1)) res.2) : PF7_isDay l Q 0 [(0, .int v0)] [] q := by
  unfold F7_isDay at h
  refine sx_iload_n dX7_isDay_0 rfl rfl ?_
  refine sx_iconst (v := (0 : Int32)) dX7_isDay_1 (by decide) ?_
  refine sx_bipush (v := (99 : Int32)) dX7_isDay_2 (by decide) ?_
  obtain ⟨z1, hz1, h⟩ := sx_bd h
  refine sx_callS (As := [.int v0, .int (0 : Int32), .int (99 : Int32)]) (rest := []) KSM (F7_in_ck l  v0 (0 : Int32) (99 : Int32) q hz1) mi_X7_in gw_865 rfl gw_866 ⟨Nat.le_of_ble_eq_true rfl, Nat.le_of_ble_eq_true rfl⟩ (Nat.le_of_ble_eq_true rfl) dX7_isDay_4 rfl ?_
  obtain ⟨g9, h⟩ := sx_gd h
  obtain rfl := Option.some.inj h
  exact sx_zret dX7_isDay_7 rfl (sx_bit g9) hk9
theorem F7_isDay_ck (l : Launch)  (v0 : Int32) (q : SQ) {r : Int32 × SQ} (h : F7_isDay  v0 q = some r) : CK shM vwCl KM tfM l yX7_isDay cX7_isDay 1 ((some .boolean)) 1 22 [.int v0] q (some (.int r.1)) r.2 :=
  CK.of mi_X7_isDay (Nat.le_of_ble_eq_true rfl) (F7_isDay_ok l  v0 q h ⟨rfl, rfl⟩)
theorem mi_X7_child : sx_MI yX7_child cX7_child 3 ((some .int)) 2 := ⟨by decide, ⟨by decide, by decide, by decide +kernel⟩, gw_918, gw_68⟩
abbrev PF7_child (l : Launch) (Q : Option Value → SQ → Prop) : Nat → List (Nat × Value) → List Value → SQ → Prop := XX shM vwCl KM tfM l RX7 cX7_child 3 ((some .int)) { frames := 2, cells := 0, slots := 0, locals := 43 } Q
def F7_child_22   (q : SQ) : Option (Int32 × SQ) :=
  some ((-1 : Int32), q)
set_option maxHeartbeats 400000 in
theorem F7_child_22_ok (l : Launch)  {Q : Option Value → SQ → Prop}  (q : SQ) {res : Int32 × SQ} (h : F7_child_22   q = some res) (hk9 : Q (some (.int res.1)) res.2) : PF7_child l Q 22 [] [] q := by
  unfold F7_child_22 at h
  refine sx_iconst (v := (-1 : Int32)) dX7_child_22 (by decide) ?_
  refine sx_goto (tgt := 58) dX7_child_23 (by decide) ?_
  obtain rfl := Option.some.inj h
  exact sx_iret dX7_child_58 rfl hk9
def F7_child  (v1 : Int32) (v2 : Int32) (q : SQ) : Option (Int32 × SQ) :=
  sx_let (sI q 0 0 (0 : Int32)) (fun q1 => (F7_isChild  v1 q1).bind (fun z2 => (if z2.1 = 0 then F7_child_22   z2.2 else (F7_in  v2 (0 : Int32) (5 : Int32) z2.2).bind (fun z3 => (if z3.1 = 0 then F7_child_22   z3.2 else (if (3 : Int32) ≤ v2 then (if sx_ix ((((3 : Int32) + ((3 : Int32) * v1)) + v2) - (3 : Int32)) 27 = true then some (gI z3.2 4 ((((3 : Int32) + ((3 : Int32) * v1)) + v2) - (3 : Int32)).toNatClampNeg, z3.2) else none) else (if sx_ix (((3 : Int32) * v1) + v2) 84 = true then some (gI z3.2 2 (((3 : Int32) * v1) + v2).toNatClampNeg, z3.2) else none)))))))
set_option maxHeartbeats 400000 in
theorem F7_child_ok (l : Launch)  {Q : Option Value → SQ → Prop} (v1 : Int32) (v2 : Int32) (q : SQ) {res : Int32 × SQ} (h : F7_child  v1 v2 q = some res) (hk9 : Q (some (.int res.1)) res.2) : PF7_child l Q 0 [(0, .ref 0), (1, .int v1), (2, .int v2)] [] q := by
  unfold F7_child at h
  refine sx_aload_n dX7_child_0 rfl rfl ?_
  refine sx_iconst (v := (0 : Int32)) dX7_child_1 (by decide) ?_
  obtain ⟨q1, eq1, h⟩ := sx_lt h
  refine sx_putI dX7_child_2 (hs := shM_0) (k9 := 0) (hf := rfl) cb_X7 ⟨by decide, rfl, gw_799⟩ rfl (by decide) ?_
  refine sx_nmQ eq1 ?_
  refine sx_aload_n dX7_child_5 rfl rfl ?_
  refine sx_iload_n dX7_child_6 rfl rfl ?_
  obtain ⟨z2, hz2, h⟩ := sx_bd h
  refine sx_callV (o := 0) (As := [.int v1]) (rest := []) KSM (F7_isChild_ck l  v1 q1 hz2) mi_X7_isChild gw_919 rfl ⟨gw_921, gw_40⟩ shM_0 rfl rfl ⟨Nat.le_of_ble_eq_true rfl, Nat.le_of_ble_eq_true rfl⟩ (Nat.le_of_ble_eq_true rfl) dX7_child_7 rfl ?_
  refine sx_if_eq (tgt := 22) dX7_child_10 (by decide) (fun c9 => ?_) (fun c9 => ?_)
  · replace h := sx_ip h c9
    refine sx_locs [] rfl ?_
    exact F7_child_22_ok l   z2.2 h hk9
  · replace h := sx_in h c9
    refine sx_iload_n dX7_child_13 rfl rfl ?_
    refine sx_iconst (v := (0 : Int32)) dX7_child_14 (by decide) ?_
    refine sx_iconst (v := (5 : Int32)) dX7_child_15 (by decide) ?_
    obtain ⟨z3, hz3, h⟩ := sx_bd h
    refine sx_callS (As := [.int v2, .int (0 : Int32), .int (5 : Int32)]) (rest := []) KSM (F7_in_ck l  v2 (0 : Int32) (5 : Int32) z2.2 hz3) mi_X7_in gw_865 rfl gw_866 ⟨Nat.le_of_ble_eq_true rfl, Nat.le_of_ble_eq_true rfl⟩ (Nat.le_of_ble_eq_true rfl) dX7_child_16 rfl ?_
    refine sx_if_ne (tgt := 26) dX7_child_19 (by decide) (fun c9 => ?_) (fun c9 => ?_)
    · replace h := sx_in h c9
      refine sx_iload_n dX7_child_26 rfl rfl ?_
      refine sx_iconst (v := (3 : Int32)) dX7_child_27 (by decide) ?_
      refine sx_icmp_ge (tgt := 44) dX7_child_28 (by decide) (fun c9 => ?_) (fun c9 => ?_)
      · replace h := sx_ip h c9
        refine sx_aload_n dX7_child_44 rfl rfl ?_
        refine sx_getR dX7_child_45 (hs := shM_0) (k9 := 11) (hf := rfl) cb_X7 ⟨by decide, rfl, gw_810⟩ ?_
        refine sx_iconst (v := (3 : Int32)) dX7_child_48 (by decide) ?_
        refine sx_iconst (v := (3 : Int32)) dX7_child_49 (by decide) ?_
        refine sx_iload_n dX7_child_50 rfl rfl ?_
        refine sx_imul dX7_child_51 ?_
        refine sx_iadd dX7_child_52 ?_
        refine sx_iload_n dX7_child_53 rfl rfl ?_
        refine sx_iadd dX7_child_54 ?_
        refine sx_iconst (v := (3 : Int32)) dX7_child_55 (by decide) ?_
        refine sx_isub dX7_child_56 ?_
        obtain ⟨g9, h⟩ := sx_gd h
        refine sx_iald dX7_child_57 shM_4 (fun _ _ => rfl) (sx_ix_in g9) ?_
        obtain rfl := Option.some.inj h
        exact sx_iret dX7_child_58 rfl hk9
      · replace h := sx_in h c9
        refine sx_aload_n dX7_child_31 rfl rfl ?_
        refine sx_getR dX7_child_32 (hs := shM_0) (k9 := 9) (hf := rfl) cb_X7 ⟨by decide, rfl, gw_808⟩ ?_
        refine sx_iconst (v := (3 : Int32)) dX7_child_35 (by decide) ?_
        refine sx_iload_n dX7_child_36 rfl rfl ?_
        refine sx_imul dX7_child_37 ?_
        refine sx_iload_n dX7_child_38 rfl rfl ?_
        refine sx_iadd dX7_child_39 ?_
        obtain ⟨g9, h⟩ := sx_gd h
        refine sx_iald dX7_child_40 shM_2 (fun _ _ => rfl) (sx_ix_in g9) ?_
        refine sx_goto (tgt := 58) dX7_child_41 (by decide) ?_
        obtain rfl := Option.some.inj h
        exact sx_iret dX7_child_58 rfl hk9
    · replace h := sx_ip h c9
      refine sx_locs [] rfl ?_
      exact F7_child_22_ok l   z3.2 h hk9
theorem F7_child_ck (l : Launch)  (v1 : Int32) (v2 : Int32) (q : SQ) {r : Int32 × SQ} (h : F7_child  v1 v2 q = some r) : CK shM vwCl KM tfM l yX7_child cX7_child 3 ((some .int)) 2 43 [.ref 0, .int v1, .int v2] q (some (.int r.1)) r.2 :=
  CK.of mi_X7_child (Nat.le_of_ble_eq_true rfl) (F7_child_ok l  v1 v2 q h ⟨rfl, rfl⟩)
theorem mi_X7_book : sx_MI yX7_book cX7_book 3 ((some .int)) 2 := ⟨by decide, ⟨by decide, by decide, by decide +kernel⟩, gw_926, gw_68⟩
abbrev PF7_book (l : Launch) (Q : Option Value → SQ → Prop) : Nat → List (Nat × Value) → List Value → SQ → Prop := XX shM vwCl KM tfM l RX7 cX7_book 3 ((some .int)) { frames := 2, cells := 0, slots := 0, locals := 43 } Q
def F7_book_38   (q : SQ) : Option (Int32 × SQ) :=
  some ((-1 : Int32), q)
set_option maxHeartbeats 400000 in
theorem F7_book_38_ok (l : Launch)  {Q : Option Value → SQ → Prop}  (q : SQ) {res : Int32 × SQ} (h : F7_book_38   q = some res) (hk9 : Q (some (.int res.1)) res.2) : PF7_book l Q 38 [] [] q := by
  unfold F7_book_38 at h
  refine sx_iconst (v := (-1 : Int32)) dX7_book_38 (by decide) ?_
  obtain rfl := Option.some.inj h
  exact sx_iret dX7_book_39 rfl hk9
def F7_book  (v1 : Int32) (v2 : Int32) (q : SQ) : Option (Int32 × SQ) :=
  sx_let (sI q 0 0 (0 : Int32)) (fun q1 => (F7_isSort  v1 q1).bind (fun z2 => (if z2.1 = 0 then F7_book_38   z2.2 else (F7_in  v2 (0 : Int32) (2 : Int32) z2.2).bind (fun z3 => (if z3.1 = 0 then F7_book_38   z3.2 else (if sx_ix (((24 : Int32) + ((3 : Int32) * v1)) + v2) 84 = true then some (gI z3.2 2 (((24 : Int32) + ((3 : Int32) * v1)) + v2).toNatClampNeg, z3.2) else none))))))
set_option maxHeartbeats 400000 in
theorem F7_book_ok (l : Launch)  {Q : Option Value → SQ → Prop} (v1 : Int32) (v2 : Int32) (q : SQ) {res : Int32 × SQ} (h : F7_book  v1 v2 q = some res) (hk9 : Q (some (.int res.1)) res.2) : PF7_book l Q 0 [(0, .ref 0), (1, .int v1), (2, .int v2)] [] q := by
  unfold F7_book at h
  refine sx_aload_n dX7_book_0 rfl rfl ?_
  refine sx_iconst (v := (0 : Int32)) dX7_book_1 (by decide) ?_
  obtain ⟨q1, eq1, h⟩ := sx_lt h
  refine sx_putI dX7_book_2 (hs := shM_0) (k9 := 0) (hf := rfl) cb_X7 ⟨by decide, rfl, gw_799⟩ rfl (by decide) ?_
  refine sx_nmQ eq1 ?_
  refine sx_aload_n dX7_book_5 rfl rfl ?_
  refine sx_iload_n dX7_book_6 rfl rfl ?_
  obtain ⟨z2, hz2, h⟩ := sx_bd h
  refine sx_callV (o := 0) (As := [.int v1]) (rest := []) KSM (F7_isSort_ck l  v1 q1 hz2) mi_X7_isSort gw_927 rfl ⟨gw_929, gw_41⟩ shM_0 rfl rfl ⟨Nat.le_of_ble_eq_true rfl, Nat.le_of_ble_eq_true rfl⟩ (Nat.le_of_ble_eq_true rfl) dX7_book_7 rfl ?_
  refine sx_if_eq (tgt := 38) dX7_book_10 (by decide) (fun c9 => ?_) (fun c9 => ?_)
  · replace h := sx_ip h c9
    refine sx_locs [] rfl ?_
    exact F7_book_38_ok l   z2.2 h hk9
  · replace h := sx_in h c9
    refine sx_iload_n dX7_book_13 rfl rfl ?_
    refine sx_iconst (v := (0 : Int32)) dX7_book_14 (by decide) ?_
    refine sx_iconst (v := (2 : Int32)) dX7_book_15 (by decide) ?_
    obtain ⟨z3, hz3, h⟩ := sx_bd h
    refine sx_callS (As := [.int v2, .int (0 : Int32), .int (2 : Int32)]) (rest := []) KSM (F7_in_ck l  v2 (0 : Int32) (2 : Int32) z2.2 hz3) mi_X7_in gw_865 rfl gw_866 ⟨Nat.le_of_ble_eq_true rfl, Nat.le_of_ble_eq_true rfl⟩ (Nat.le_of_ble_eq_true rfl) dX7_book_16 rfl ?_
    refine sx_if_eq (tgt := 38) dX7_book_19 (by decide) (fun c9 => ?_) (fun c9 => ?_)
    · replace h := sx_ip h c9
      refine sx_locs [] rfl ?_
      exact F7_book_38_ok l   z3.2 h hk9
    · replace h := sx_in h c9
      refine sx_aload_n dX7_book_22 rfl rfl ?_
      refine sx_getR dX7_book_23 (hs := shM_0) (k9 := 9) (hf := rfl) cb_X7 ⟨by decide, rfl, gw_808⟩ ?_
      refine sx_bipush (v := (24 : Int32)) dX7_book_26 (by decide) ?_
      refine sx_iconst (v := (3 : Int32)) dX7_book_28 (by decide) ?_
      refine sx_iload_n dX7_book_29 rfl rfl ?_
      refine sx_imul dX7_book_30 ?_
      refine sx_iadd dX7_book_31 ?_
      refine sx_iload_n dX7_book_32 rfl rfl ?_
      refine sx_iadd dX7_book_33 ?_
      obtain ⟨g9, h⟩ := sx_gd h
      refine sx_iald dX7_book_34 shM_2 (fun _ _ => rfl) (sx_ix_in g9) ?_
      refine sx_goto (tgt := 39) dX7_book_35 (by decide) ?_
      obtain rfl := Option.some.inj h
      exact sx_iret dX7_book_39 rfl hk9
theorem F7_book_ck (l : Launch)  (v1 : Int32) (v2 : Int32) (q : SQ) {r : Int32 × SQ} (h : F7_book  v1 v2 q = some r) : CK shM vwCl KM tfM l yX7_book cX7_book 3 ((some .int)) 2 43 [.ref 0, .int v1, .int v2] q (some (.int r.1)) r.2 :=
  CK.of mi_X7_book (Nat.le_of_ble_eq_true rfl) (F7_book_ok l  v1 v2 q h ⟨rfl, rfl⟩)
theorem mi_X7_plan : sx_MI yX7_plan cX7_plan 2 ((some .int)) 1 := ⟨by decide, ⟨by decide, by decide, by decide +kernel⟩, gw_934, gw_68⟩
abbrev PF7_plan (l : Launch) (Q : Option Value → SQ → Prop) : Nat → List (Nat × Value) → List Value → SQ → Prop := XX shM vwCl KM tfM l RX7 cX7_plan 2 ((some .int)) { frames := 1, cells := 0, slots := 0, locals := 22 } Q
def F7_plan  (v1 : Int32) (q : SQ) : Option (Int32 × SQ) :=
  sx_let (sI q 0 0 (0 : Int32)) (fun q1 => (F7_in  v1 (0 : Int32) (3 : Int32) q1).bind (fun z2 => (if z2.1 = 0 then some ((-1 : Int32), z2.2) else (if sx_ix ((36 : Int32) + v1) 84 = true then some (gI z2.2 2 ((36 : Int32) + v1).toNatClampNeg, z2.2) else none))))
set_option maxHeartbeats 400000 in
theorem F7_plan_ok (l : Launch)  {Q : Option Value → SQ → Prop} (v1 : Int32) (q : SQ) {res : Int32 × SQ} (h : F7_plan  v1 q = some res) (hk9 : Q (some (.int res.1)) res.2) : PF7_plan l Q 0 [(0, .ref 0), (1, .int v1)] [] q := by
  unfold F7_plan at h
  refine sx_aload_n dX7_plan_0 rfl rfl ?_
  refine sx_iconst (v := (0 : Int32)) dX7_plan_1 (by decide) ?_
  obtain ⟨q1, eq1, h⟩ := sx_lt h
  refine sx_putI dX7_plan_2 (hs := shM_0) (k9 := 0) (hf := rfl) cb_X7 ⟨by decide, rfl, gw_799⟩ rfl (by decide) ?_
  refine sx_nmQ eq1 ?_
  refine sx_iload_n dX7_plan_5 rfl rfl ?_
  refine sx_iconst (v := (0 : Int32)) dX7_plan_6 (by decide) ?_
  refine sx_iconst (v := (3 : Int32)) dX7_plan_7 (by decide) ?_
  obtain ⟨z2, hz2, h⟩ := sx_bd h
  refine sx_callS (As := [.int v1, .int (0 : Int32), .int (3 : Int32)]) (rest := []) KSM (F7_in_ck l  v1 (0 : Int32) (3 : Int32) q1 hz2) mi_X7_in gw_865 rfl gw_866 ⟨Nat.le_of_ble_eq_true rfl, Nat.le_of_ble_eq_true rfl⟩ (Nat.le_of_ble_eq_true rfl) dX7_plan_8 rfl ?_
  refine sx_if_eq (tgt := 26) dX7_plan_11 (by decide) (fun c9 => ?_) (fun c9 => ?_)
  · replace h := sx_ip h c9
    refine sx_iconst (v := (-1 : Int32)) dX7_plan_26 (by decide) ?_
    obtain rfl := Option.some.inj h
    exact sx_iret dX7_plan_27 rfl hk9
  · replace h := sx_in h c9
    refine sx_aload_n dX7_plan_14 rfl rfl ?_
    refine sx_getR dX7_plan_15 (hs := shM_0) (k9 := 9) (hf := rfl) cb_X7 ⟨by decide, rfl, gw_808⟩ ?_
    refine sx_bipush (v := (36 : Int32)) dX7_plan_18 (by decide) ?_
    refine sx_iload_n dX7_plan_20 rfl rfl ?_
    refine sx_iadd dX7_plan_21 ?_
    obtain ⟨g9, h⟩ := sx_gd h
    refine sx_iald dX7_plan_22 shM_2 (fun _ _ => rfl) (sx_ix_in g9) ?_
    refine sx_goto (tgt := 27) dX7_plan_23 (by decide) ?_
    obtain rfl := Option.some.inj h
    exact sx_iret dX7_plan_27 rfl hk9
theorem F7_plan_ck (l : Launch)  (v1 : Int32) (q : SQ) {r : Int32 × SQ} (h : F7_plan  v1 q = some r) : CK shM vwCl KM tfM l yX7_plan cX7_plan 2 ((some .int)) 1 22 [.ref 0, .int v1] q (some (.int r.1)) r.2 :=
  CK.of mi_X7_plan (Nat.le_of_ble_eq_true rfl) (F7_plan_ok l  v1 q h ⟨rfl, rfl⟩)
theorem mi_X7_tune : sx_MI yX7_tune cX7_tune 5 ((some .int)) 2 := ⟨by decide, ⟨by decide, by decide, by decide +kernel⟩, gw_938, gw_68⟩
abbrev PF7_tune (l : Launch) (Q : Option Value → SQ → Prop) : Nat → List (Nat × Value) → List Value → SQ → Prop := XX shM vwCl KM tfM l RX7 cX7_tune 5 ((some .int)) { frames := 1, cells := 0, slots := 0, locals := 22 } Q
def F7_tune_50   (q : SQ) : Option (Int32 × SQ) :=
  some ((-1 : Int32), q)
set_option maxHeartbeats 400000 in
theorem F7_tune_50_ok (l : Launch)  {Q : Option Value → SQ → Prop}  (q : SQ) {res : Int32 × SQ} (h : F7_tune_50   q = some res) (hk9 : Q (some (.int res.1)) res.2) : PF7_tune l Q 50 [] [] q := by
  unfold F7_tune_50 at h
  refine sx_iconst (v := (-1 : Int32)) dX7_tune_50 (by decide) ?_
  obtain rfl := Option.some.inj h
  exact sx_iret dX7_tune_51 rfl hk9
def F7_tune_31  (v1 : Int32) (v2 : Int32) (s0 : Int32) (q : SQ) : Option (Int32 × SQ) :=
  (F7_in  v1 (0 : Int32) (5 : Int32) q).bind (fun z2 => (if z2.1 = 0 then F7_tune_50   z2.2 else (F7_in  v2 (0 : Int32) s0 z2.2).bind (fun z3 => (if z3.1 = 0 then F7_tune_50   z3.2 else (if sx_ix v1 6 = true then sx_let (gI z3.2 3 v1.toNatClampNeg) (fun x4 => (if sx_ix v1 6 = true then sx_let (sI z3.2 3 v1.toNatClampNeg v2) (fun q5 => some (x4, q5)) else none)) else none)))))
set_option maxHeartbeats 400000 in
theorem F7_tune_31_ok (l : Launch)  {Q : Option Value → SQ → Prop} (v1 : Int32) (v2 : Int32) (s0 : Int32) (q : SQ) {res : Int32 × SQ} (h : F7_tune_31  v1 v2 s0 q = some res) (hk9 : Q (some (.int res.1)) res.2) : PF7_tune l Q 31 [(0, .ref 0), (1, .int v1), (2, .int v2)] [.int s0] q := by
  unfold F7_tune_31 at h
  refine sx_istore_n (ls2 := [(3, .int s0), (0, .ref 0), (1, .int v1), (2, .int v2)]) dX7_tune_31 rfl (by decide) rfl ?_
  refine sx_iload_n dX7_tune_32 rfl rfl ?_
  refine sx_iconst (v := (0 : Int32)) dX7_tune_33 (by decide) ?_
  refine sx_iconst (v := (5 : Int32)) dX7_tune_34 (by decide) ?_
  obtain ⟨z2, hz2, h⟩ := sx_bd h
  refine sx_callS (As := [.int v1, .int (0 : Int32), .int (5 : Int32)]) (rest := []) KSM (F7_in_ck l  v1 (0 : Int32) (5 : Int32) q hz2) mi_X7_in gw_865 rfl gw_866 ⟨Nat.le_of_ble_eq_true rfl, Nat.le_of_ble_eq_true rfl⟩ (Nat.le_of_ble_eq_true rfl) dX7_tune_35 rfl ?_
  refine sx_if_eq (tgt := 50) dX7_tune_38 (by decide) (fun c9 => ?_) (fun c9 => ?_)
  · replace h := sx_ip h c9
    refine sx_locs [] rfl ?_
    exact F7_tune_50_ok l   z2.2 h hk9
  · replace h := sx_in h c9
    refine sx_iload_n dX7_tune_41 rfl rfl ?_
    refine sx_iconst (v := (0 : Int32)) dX7_tune_42 (by decide) ?_
    refine sx_iload_n dX7_tune_43 rfl rfl ?_
    obtain ⟨z3, hz3, h⟩ := sx_bd h
    refine sx_callS (As := [.int v2, .int (0 : Int32), .int s0]) (rest := []) KSM (F7_in_ck l  v2 (0 : Int32) s0 z2.2 hz3) mi_X7_in gw_865 rfl gw_866 ⟨Nat.le_of_ble_eq_true rfl, Nat.le_of_ble_eq_true rfl⟩ (Nat.le_of_ble_eq_true rfl) dX7_tune_44 rfl ?_
    refine sx_if_ne (tgt := 52) dX7_tune_47 (by decide) (fun c9 => ?_) (fun c9 => ?_)
    · replace h := sx_in h c9
      refine sx_aload_n dX7_tune_52 rfl rfl ?_
      refine sx_getR dX7_tune_53 (hs := shM_0) (k9 := 10) (hf := rfl) cb_X7 ⟨by decide, rfl, gw_809⟩ ?_
      refine sx_iload_n dX7_tune_56 rfl rfl ?_
      obtain ⟨g9, h⟩ := sx_gd h
      refine sx_iald dX7_tune_57 shM_3 (fun _ _ => rfl) (sx_ix_in g9) ?_
      obtain ⟨x4, ex4, h⟩ := sx_lt h
      refine sx_nmI ex4 ?_
      refine sx_istore (ls2 := [(4, .int x4), (3, .int s0), (0, .ref 0), (1, .int v1), (2, .int v2)]) dX7_tune_58 (by decide) rfl ?_
      refine sx_aload_n dX7_tune_60 rfl rfl ?_
      refine sx_getR dX7_tune_61 (hs := shM_0) (k9 := 10) (hf := rfl) cb_X7 ⟨by decide, rfl, gw_809⟩ ?_
      refine sx_iload_n dX7_tune_64 rfl rfl ?_
      refine sx_iload_n dX7_tune_65 rfl rfl ?_
      obtain ⟨g9, h⟩ := sx_gd h
      obtain ⟨q5, eq5, h⟩ := sx_lt h
      refine sx_iast dX7_tune_66 shM_3 (fun _ _ => rfl) (sx_ix_in g9) ?_
      refine sx_nmQ eq5 ?_
      refine sx_iload dX7_tune_67 rfl ?_
      obtain rfl := Option.some.inj h
      exact sx_iret dX7_tune_69 rfl hk9
    · replace h := sx_ip h c9
      refine sx_locs [] rfl ?_
      exact F7_tune_50_ok l   z3.2 h hk9
def F7_tune_24  (v1 : Int32) (v2 : Int32) (q : SQ) : Option (Int32 × SQ) :=
  F7_tune_31  v1 v2 (20 : Int32) q
set_option maxHeartbeats 400000 in
theorem F7_tune_24_ok (l : Launch)  {Q : Option Value → SQ → Prop} (v1 : Int32) (v2 : Int32) (q : SQ) {res : Int32 × SQ} (h : F7_tune_24  v1 v2 q = some res) (hk9 : Q (some (.int res.1)) res.2) : PF7_tune l Q 24 [(0, .ref 0), (1, .int v1), (2, .int v2)] [] q := by
  unfold F7_tune_24 at h
  refine sx_bipush (v := (20 : Int32)) dX7_tune_24 (by decide) ?_
  refine sx_goto (tgt := 31) dX7_tune_26 (by decide) ?_
  exact F7_tune_31_ok l  v1 v2 (20 : Int32) q h hk9
def F7_tune  (v1 : Int32) (v2 : Int32) (q : SQ) : Option (Int32 × SQ) :=
  sx_let (sI q 0 0 (0 : Int32)) (fun q1 => (if v1 = 0 then F7_tune_31  v1 v2 (99 : Int32) q1 else (if v1 = (2 : Int32) then F7_tune_24  v1 v2 q1 else (if v1 = (4 : Int32) then F7_tune_24  v1 v2 q1 else F7_tune_31  v1 v2 (9 : Int32) q1))))
set_option maxHeartbeats 400000 in
theorem F7_tune_ok (l : Launch)  {Q : Option Value → SQ → Prop} (v1 : Int32) (v2 : Int32) (q : SQ) {res : Int32 × SQ} (h : F7_tune  v1 v2 q = some res) (hk9 : Q (some (.int res.1)) res.2) : PF7_tune l Q 0 [(0, .ref 0), (1, .int v1), (2, .int v2)] [] q := by
  unfold F7_tune at h
  refine sx_aload_n dX7_tune_0 rfl rfl ?_
  refine sx_iconst (v := (0 : Int32)) dX7_tune_1 (by decide) ?_
  obtain ⟨q1, eq1, h⟩ := sx_lt h
  refine sx_putI dX7_tune_2 (hs := shM_0) (k9 := 0) (hf := rfl) cb_X7 ⟨by decide, rfl, gw_799⟩ rfl (by decide) ?_
  refine sx_nmQ eq1 ?_
  refine sx_iload_n dX7_tune_5 rfl rfl ?_
  refine sx_if_ne (tgt := 14) dX7_tune_6 (by decide) (fun c9 => ?_) (fun c9 => ?_)
  · replace h := sx_in h c9
    refine sx_iload_n dX7_tune_14 rfl rfl ?_
    refine sx_iconst (v := (2 : Int32)) dX7_tune_15 (by decide) ?_
    refine sx_icmp_eq (tgt := 24) dX7_tune_16 (by decide) (fun c9 => ?_) (fun c9 => ?_)
    · replace h := sx_ip h c9
      exact F7_tune_24_ok l  v1 v2 q1 h hk9
    · replace h := sx_in h c9
      refine sx_iload_n dX7_tune_19 rfl rfl ?_
      refine sx_iconst (v := (4 : Int32)) dX7_tune_20 (by decide) ?_
      refine sx_icmp_ne (tgt := 29) dX7_tune_21 (by decide) (fun c9 => ?_) (fun c9 => ?_)
      · replace h := sx_in h c9
        refine sx_bipush (v := (9 : Int32)) dX7_tune_29 (by decide) ?_
        exact F7_tune_31_ok l  v1 v2 (9 : Int32) q1 h hk9
      · replace h := sx_ip h c9
        exact F7_tune_24_ok l  v1 v2 q1 h hk9
  · replace h := sx_ip h c9
    refine sx_bipush (v := (99 : Int32)) dX7_tune_9 (by decide) ?_
    refine sx_goto (tgt := 31) dX7_tune_11 (by decide) ?_
    exact F7_tune_31_ok l  v1 v2 (99 : Int32) q1 h hk9
theorem F7_tune_ck (l : Launch)  (v1 : Int32) (v2 : Int32) (q : SQ) {r : Int32 × SQ} (h : F7_tune  v1 v2 q = some r) : CK shM vwCl KM tfM l yX7_tune cX7_tune 5 ((some .int)) 1 22 [.ref 0, .int v1, .int v2] q (some (.int r.1)) r.2 :=
  CK.of mi_X7_tune (Nat.le_of_ble_eq_true rfl) (F7_tune_ok l  v1 v2 q h ⟨rfl, rfl⟩)
theorem mi_X7_givenOf : sx_MI yX7_givenOf cX7_givenOf 5 ((some .int)) 2 := ⟨by decide, ⟨by decide, by decide, by decide +kernel⟩, gw_949, gw_68⟩
abbrev PF7_givenOf (l : Launch) (Q : Option Value → SQ → Prop) : Nat → List (Nat × Value) → List Value → SQ → Prop := XX shM vwCl KM tfM l RX7 cX7_givenOf 5 ((some .int)) { frames := 0, cells := 0, slots := 0, locals := 0 } Q
def F7_givenOf_55   (q : SQ) : Option (Int32 × SQ) :=
  some ((0 : Int32), q)
set_option maxHeartbeats 400000 in
theorem F7_givenOf_55_ok (l : Launch)  {Q : Option Value → SQ → Prop}  (q : SQ) {res : Int32 × SQ} (h : F7_givenOf_55   q = some res) (hk9 : Q (some (.int res.1)) res.2) : PF7_givenOf l Q 55 [] [] q := by
  unfold F7_givenOf_55 at h
  refine sx_iconst (v := (0 : Int32)) dX7_givenOf_55 (by decide) ?_
  obtain rfl := Option.some.inj h
  exact sx_iret dX7_givenOf_56 rfl hk9
def F7_givenOf  (v1 : Int32) (v2 : Int32) (q : SQ) : Option (Int32 × SQ) :=
  (if sx_ix (((24 : Int32) + ((3 : Int32) * v1)) + (2 : Int32)) 84 = true then sx_let (gI q 2 (((24 : Int32) + ((3 : Int32) * v1)) + (2 : Int32)).toNatClampNeg) (fun x1 => sx_let ((gI q 2 37) + (gI q 2 39)) (fun x2 => (if gI q 0 16 = 0 then (if v2 < gI q 2 36 then F7_givenOf_55   q else (if v2 < x2 then (if gI q 2 37 ≤ v2 then (if sx_n0 ((gI q 2 39) + (1 : Int32)) = true then some ((x1 * (x2 - v2)) / ((gI q 2 39) + (1 : Int32)), q) else none) else some (x1, q)) else F7_givenOf_55   q)) else F7_givenOf_55   q))) else none)
set_option maxHeartbeats 400000 in
theorem F7_givenOf_ok (l : Launch)  {Q : Option Value → SQ → Prop} (v1 : Int32) (v2 : Int32) (q : SQ) {res : Int32 × SQ} (h : F7_givenOf  v1 v2 q = some res) (hk9 : Q (some (.int res.1)) res.2) : PF7_givenOf l Q 0 [(0, .ref 0), (1, .int v1), (2, .int v2)] [] q := by
  unfold F7_givenOf at h
  refine sx_aload_n dX7_givenOf_0 rfl rfl ?_
  refine sx_getR dX7_givenOf_1 (hs := shM_0) (k9 := 9) (hf := rfl) cb_X7 ⟨by decide, rfl, gw_808⟩ ?_
  refine sx_bipush (v := (24 : Int32)) dX7_givenOf_4 (by decide) ?_
  refine sx_iconst (v := (3 : Int32)) dX7_givenOf_6 (by decide) ?_
  refine sx_iload_n dX7_givenOf_7 rfl rfl ?_
  refine sx_imul dX7_givenOf_8 ?_
  refine sx_iadd dX7_givenOf_9 ?_
  refine sx_iconst (v := (2 : Int32)) dX7_givenOf_10 (by decide) ?_
  refine sx_iadd dX7_givenOf_11 ?_
  obtain ⟨g9, h⟩ := sx_gd h
  refine sx_iald dX7_givenOf_12 shM_2 (fun _ _ => rfl) (sx_ix_in g9) ?_
  obtain ⟨x1, ex1, h⟩ := sx_lt h
  refine sx_nmI ex1 ?_
  refine sx_istore_n (ls2 := [(3, .int x1), (0, .ref 0), (1, .int v1), (2, .int v2)]) dX7_givenOf_13 rfl (by decide) rfl ?_
  refine sx_aload_n dX7_givenOf_14 rfl rfl ?_
  refine sx_getR dX7_givenOf_15 (hs := shM_0) (k9 := 9) (hf := rfl) cb_X7 ⟨by decide, rfl, gw_808⟩ ?_
  refine sx_bipush (v := (37 : Int32)) dX7_givenOf_18 (by decide) ?_
  refine sx_ialdC (j9 := 37) dX7_givenOf_20 shM_2 (fun _ _ => rfl) (by decide) (by decide) ?_
  refine sx_aload_n dX7_givenOf_21 rfl rfl ?_
  refine sx_getR dX7_givenOf_22 (hs := shM_0) (k9 := 9) (hf := rfl) cb_X7 ⟨by decide, rfl, gw_808⟩ ?_
  refine sx_bipush (v := (39 : Int32)) dX7_givenOf_25 (by decide) ?_
  refine sx_ialdC (j9 := 39) dX7_givenOf_27 shM_2 (fun _ _ => rfl) (by decide) (by decide) ?_
  refine sx_iadd dX7_givenOf_28 ?_
  obtain ⟨x2, ex2, h⟩ := sx_lt h
  refine sx_nmI ex2 ?_
  refine sx_istore (ls2 := [(4, .int x2), (3, .int x1), (0, .ref 0), (1, .int v1), (2, .int v2)]) dX7_givenOf_29 (by decide) rfl ?_
  refine sx_aload_n dX7_givenOf_31 rfl rfl ?_
  refine sx_getI dX7_givenOf_32 (hs := shM_0) (k9 := 16) (hf := rfl) cb_X7 ⟨by decide, rfl, gw_815⟩ ?_
  refine sx_if_ne (tgt := 55) dX7_givenOf_35 (by decide) (fun c9 => ?_) (fun c9 => ?_)
  · replace h := sx_in h c9
    refine sx_locs [] rfl ?_
    exact F7_givenOf_55_ok l   q h hk9
  · replace h := sx_ip h c9
    refine sx_iload_n dX7_givenOf_38 rfl rfl ?_
    refine sx_aload_n dX7_givenOf_39 rfl rfl ?_
    refine sx_getR dX7_givenOf_40 (hs := shM_0) (k9 := 9) (hf := rfl) cb_X7 ⟨by decide, rfl, gw_808⟩ ?_
    refine sx_bipush (v := (36 : Int32)) dX7_givenOf_43 (by decide) ?_
    refine sx_ialdC (j9 := 36) dX7_givenOf_45 shM_2 (fun _ _ => rfl) (by decide) (by decide) ?_
    refine sx_icmp_lt (tgt := 55) dX7_givenOf_46 (by decide) (fun c9 => ?_) (fun c9 => ?_)
    · replace h := sx_ip h c9
      refine sx_locs [] rfl ?_
      exact F7_givenOf_55_ok l   q h hk9
    · replace h := sx_in h c9
      refine sx_iload_n dX7_givenOf_49 rfl rfl ?_
      refine sx_iload dX7_givenOf_50 rfl ?_
      refine sx_icmp_lt (tgt := 57) dX7_givenOf_52 (by decide) (fun c9 => ?_) (fun c9 => ?_)
      · replace h := sx_ip h c9
        refine sx_iload_n dX7_givenOf_57 rfl rfl ?_
        refine sx_aload_n dX7_givenOf_58 rfl rfl ?_
        refine sx_getR dX7_givenOf_59 (hs := shM_0) (k9 := 9) (hf := rfl) cb_X7 ⟨by decide, rfl, gw_808⟩ ?_
        refine sx_bipush (v := (37 : Int32)) dX7_givenOf_62 (by decide) ?_
        refine sx_ialdC (j9 := 37) dX7_givenOf_64 shM_2 (fun _ _ => rfl) (by decide) (by decide) ?_
        refine sx_icmp_ge (tgt := 72) dX7_givenOf_65 (by decide) (fun c9 => ?_) (fun c9 => ?_)
        · replace h := sx_ip h c9
          refine sx_iload_n dX7_givenOf_72 rfl rfl ?_
          refine sx_iload dX7_givenOf_73 rfl ?_
          refine sx_iload_n dX7_givenOf_75 rfl rfl ?_
          refine sx_isub dX7_givenOf_76 ?_
          refine sx_imul dX7_givenOf_77 ?_
          refine sx_aload_n dX7_givenOf_78 rfl rfl ?_
          refine sx_getR dX7_givenOf_79 (hs := shM_0) (k9 := 9) (hf := rfl) cb_X7 ⟨by decide, rfl, gw_808⟩ ?_
          refine sx_bipush (v := (39 : Int32)) dX7_givenOf_82 (by decide) ?_
          refine sx_ialdC (j9 := 39) dX7_givenOf_84 shM_2 (fun _ _ => rfl) (by decide) (by decide) ?_
          refine sx_iconst (v := (1 : Int32)) dX7_givenOf_85 (by decide) ?_
          refine sx_iadd dX7_givenOf_86 ?_
          obtain ⟨g9, h⟩ := sx_gd h
          refine sx_idiv dX7_givenOf_87 (sx_nz g9) ?_
          obtain rfl := Option.some.inj h
          exact sx_iret dX7_givenOf_88 rfl hk9
        · replace h := sx_in h c9
          refine sx_iload_n dX7_givenOf_68 rfl rfl ?_
          refine sx_goto (tgt := 88) dX7_givenOf_69 (by decide) ?_
          obtain rfl := Option.some.inj h
          exact sx_iret dX7_givenOf_88 rfl hk9
      · replace h := sx_in h c9
        refine sx_locs [] rfl ?_
        exact F7_givenOf_55_ok l   q h hk9
theorem F7_givenOf_ck (l : Launch)  (v1 : Int32) (v2 : Int32) (q : SQ) {r : Int32 × SQ} (h : F7_givenOf  v1 v2 q = some r) : CK shM vwCl KM tfM l yX7_givenOf cX7_givenOf 5 ((some .int)) 0 0 [.ref 0, .int v1, .int v2] q (some (.int r.1)) r.2 :=
  CK.of mi_X7_givenOf (Nat.le_of_ble_eq_true rfl) (F7_givenOf_ok l  v1 v2 q h ⟨rfl, rfl⟩)
theorem mi_X7_given : sx_MI yX7_given cX7_given 3 ((some .int)) 2 := ⟨by decide, ⟨by decide, by decide, by decide +kernel⟩, gw_942, gw_68⟩
abbrev PF7_given (l : Launch) (Q : Option Value → SQ → Prop) : Nat → List (Nat × Value) → List Value → SQ → Prop := XX shM vwCl KM tfM l RX7 cX7_given 3 ((some .int)) { frames := 2, cells := 0, slots := 0, locals := 43 } Q
def F7_given_29   (q : SQ) : Option (Int32 × SQ) :=
  some ((-1 : Int32), q)
set_option maxHeartbeats 400000 in
theorem F7_given_29_ok (l : Launch)  {Q : Option Value → SQ → Prop}  (q : SQ) {res : Int32 × SQ} (h : F7_given_29   q = some res) (hk9 : Q (some (.int res.1)) res.2) : PF7_given l Q 29 [] [] q := by
  unfold F7_given_29 at h
  refine sx_iconst (v := (-1 : Int32)) dX7_given_29 (by decide) ?_
  obtain rfl := Option.some.inj h
  exact sx_iret dX7_given_30 rfl hk9
def F7_given  (v1 : Int32) (v2 : Int32) (q : SQ) : Option (Int32 × SQ) :=
  sx_let (sI q 0 0 (0 : Int32)) (fun q1 => (F7_isSort  v1 q1).bind (fun z2 => (if z2.1 = 0 then F7_given_29   z2.2 else (F7_isDay  v2 z2.2).bind (fun z3 => (if z3.1 = 0 then F7_given_29   z3.2 else (F7_givenOf  v1 v2 z3.2).bind (fun z4 => some (z4.1, z4.2)))))))
set_option maxHeartbeats 400000 in
theorem F7_given_ok (l : Launch)  {Q : Option Value → SQ → Prop} (v1 : Int32) (v2 : Int32) (q : SQ) {res : Int32 × SQ} (h : F7_given  v1 v2 q = some res) (hk9 : Q (some (.int res.1)) res.2) : PF7_given l Q 0 [(0, .ref 0), (1, .int v1), (2, .int v2)] [] q := by
  unfold F7_given at h
  refine sx_aload_n dX7_given_0 rfl rfl ?_
  refine sx_iconst (v := (0 : Int32)) dX7_given_1 (by decide) ?_
  obtain ⟨q1, eq1, h⟩ := sx_lt h
  refine sx_putI dX7_given_2 (hs := shM_0) (k9 := 0) (hf := rfl) cb_X7 ⟨by decide, rfl, gw_799⟩ rfl (by decide) ?_
  refine sx_nmQ eq1 ?_
  refine sx_aload_n dX7_given_5 rfl rfl ?_
  refine sx_iload_n dX7_given_6 rfl rfl ?_
  obtain ⟨z2, hz2, h⟩ := sx_bd h
  refine sx_callV (o := 0) (As := [.int v1]) (rest := []) KSM (F7_isSort_ck l  v1 q1 hz2) mi_X7_isSort gw_927 rfl ⟨gw_929, gw_41⟩ shM_0 rfl rfl ⟨Nat.le_of_ble_eq_true rfl, Nat.le_of_ble_eq_true rfl⟩ (Nat.le_of_ble_eq_true rfl) dX7_given_7 rfl ?_
  refine sx_if_eq (tgt := 29) dX7_given_10 (by decide) (fun c9 => ?_) (fun c9 => ?_)
  · replace h := sx_ip h c9
    refine sx_locs [] rfl ?_
    exact F7_given_29_ok l   z2.2 h hk9
  · replace h := sx_in h c9
    refine sx_iload_n dX7_given_13 rfl rfl ?_
    obtain ⟨z3, hz3, h⟩ := sx_bd h
    refine sx_callS (As := [.int v2]) (rest := []) KSM (F7_isDay_ck l  v2 z2.2 hz3) mi_X7_isDay gw_943 rfl gw_944 ⟨Nat.le_of_ble_eq_true rfl, Nat.le_of_ble_eq_true rfl⟩ (Nat.le_of_ble_eq_true rfl) dX7_given_14 rfl ?_
    refine sx_if_eq (tgt := 29) dX7_given_17 (by decide) (fun c9 => ?_) (fun c9 => ?_)
    · replace h := sx_ip h c9
      refine sx_locs [] rfl ?_
      exact F7_given_29_ok l   z3.2 h hk9
    · replace h := sx_in h c9
      refine sx_aload_n dX7_given_20 rfl rfl ?_
      refine sx_iload_n dX7_given_21 rfl rfl ?_
      refine sx_iload_n dX7_given_22 rfl rfl ?_
      obtain ⟨z4, hz4, h⟩ := sx_bd h
      refine sx_callV (o := 0) (As := [.int v1, .int v2]) (rest := []) KSM (F7_givenOf_ck l  v1 v2 z3.2 hz4) mi_X7_givenOf gw_946 rfl ⟨gw_948, gw_42⟩ shM_0 rfl rfl ⟨Nat.le_of_ble_eq_true rfl, Nat.le_of_ble_eq_true rfl⟩ (Nat.le_of_ble_eq_true rfl) dX7_given_23 rfl ?_
      refine sx_goto (tgt := 30) dX7_given_26 (by decide) ?_
      obtain rfl := Option.some.inj h
      exact sx_iret dX7_given_30 rfl hk9
theorem F7_given_ck (l : Launch)  (v1 : Int32) (v2 : Int32) (q : SQ) {r : Int32 × SQ} (h : F7_given  v1 v2 q = some r) : CK shM vwCl KM tfM l yX7_given cX7_given 3 ((some .int)) 2 43 [.ref 0, .int v1, .int v2] q (some (.int r.1)) r.2 :=
  CK.of mi_X7_given (Nat.le_of_ble_eq_true rfl) (F7_given_ok l  v1 v2 q h ⟨rfl, rfl⟩)
theorem mi_X7_pagesOf : sx_MI yX7_pagesOf cX7_pagesOf 3 ((some .int)) 2 := ⟨by decide, ⟨by decide, by decide, by decide +kernel⟩, gw_957, gw_68⟩
abbrev PF7_pagesOf (l : Launch) (Q : Option Value → SQ → Prop) : Nat → List (Nat × Value) → List Value → SQ → Prop := XX shM vwCl KM tfM l RX7 cX7_pagesOf 3 ((some .int)) { frames := 0, cells := 0, slots := 0, locals := 0 } Q
def F7_pagesOf  (v1 : Int32) (v2 : Int32) (q : SQ) : Option (Int32 × SQ) :=
  (if sx_ix (((3 : Int32) * v1) + (1 : Int32)) 84 = true then (if sx_ix ((24 : Int32) + ((3 : Int32) * v2)) 84 = true then (if sx_n0 (gI q 2 ((24 : Int32) + ((3 : Int32) * v2)).toNatClampNeg) = true then some (((6 : Int32) * (gI q 2 (((3 : Int32) * v1) + (1 : Int32)).toNatClampNeg)) / (gI q 2 ((24 : Int32) + ((3 : Int32) * v2)).toNatClampNeg), q) else none) else none) else none)
set_option maxHeartbeats 400000 in
theorem F7_pagesOf_ok (l : Launch)  {Q : Option Value → SQ → Prop} (v1 : Int32) (v2 : Int32) (q : SQ) {res : Int32 × SQ} (h : F7_pagesOf  v1 v2 q = some res) (hk9 : Q (some (.int res.1)) res.2) : PF7_pagesOf l Q 0 [(0, .ref 0), (1, .int v1), (2, .int v2)] [] q := by
  unfold F7_pagesOf at h
  refine sx_bipush (v := (6 : Int32)) dX7_pagesOf_0 (by decide) ?_
  refine sx_aload_n dX7_pagesOf_2 rfl rfl ?_
  refine sx_getR dX7_pagesOf_3 (hs := shM_0) (k9 := 9) (hf := rfl) cb_X7 ⟨by decide, rfl, gw_808⟩ ?_
  refine sx_iconst (v := (3 : Int32)) dX7_pagesOf_6 (by decide) ?_
  refine sx_iload_n dX7_pagesOf_7 rfl rfl ?_
  refine sx_imul dX7_pagesOf_8 ?_
  refine sx_iconst (v := (1 : Int32)) dX7_pagesOf_9 (by decide) ?_
  refine sx_iadd dX7_pagesOf_10 ?_
  obtain ⟨g9, h⟩ := sx_gd h
  refine sx_iald dX7_pagesOf_11 shM_2 (fun _ _ => rfl) (sx_ix_in g9) ?_
  refine sx_imul dX7_pagesOf_12 ?_
  refine sx_aload_n dX7_pagesOf_13 rfl rfl ?_
  refine sx_getR dX7_pagesOf_14 (hs := shM_0) (k9 := 9) (hf := rfl) cb_X7 ⟨by decide, rfl, gw_808⟩ ?_
  refine sx_bipush (v := (24 : Int32)) dX7_pagesOf_17 (by decide) ?_
  refine sx_iconst (v := (3 : Int32)) dX7_pagesOf_19 (by decide) ?_
  refine sx_iload_n dX7_pagesOf_20 rfl rfl ?_
  refine sx_imul dX7_pagesOf_21 ?_
  refine sx_iadd dX7_pagesOf_22 ?_
  obtain ⟨g9, h⟩ := sx_gd h
  refine sx_iald dX7_pagesOf_23 shM_2 (fun _ _ => rfl) (sx_ix_in g9) ?_
  obtain ⟨g9, h⟩ := sx_gd h
  refine sx_idiv dX7_pagesOf_24 (sx_nz g9) ?_
  obtain rfl := Option.some.inj h
  exact sx_iret dX7_pagesOf_25 rfl hk9
theorem F7_pagesOf_ck (l : Launch)  (v1 : Int32) (v2 : Int32) (q : SQ) {r : Int32 × SQ} (h : F7_pagesOf  v1 v2 q = some r) : CK shM vwCl KM tfM l yX7_pagesOf cX7_pagesOf 3 ((some .int)) 0 0 [.ref 0, .int v1, .int v2] q (some (.int r.1)) r.2 :=
  CK.of mi_X7_pagesOf (Nat.le_of_ble_eq_true rfl) (F7_pagesOf_ok l  v1 v2 q h ⟨rfl, rfl⟩)
theorem mi_X7_joysOf : sx_MI yX7_joysOf cX7_joysOf 4 ((some .int)) 3 := ⟨by decide, ⟨by decide, by decide, by decide +kernel⟩, gw_961, gw_68⟩
abbrev PF7_joysOf (l : Launch) (Q : Option Value → SQ → Prop) : Nat → List (Nat × Value) → List Value → SQ → Prop := XX shM vwCl KM tfM l RX7 cX7_joysOf 4 ((some .int)) { frames := 0, cells := 0, slots := 0, locals := 0 } Q
def F7_joysOf (r1 : Nat) (v2 : Int32) (v3 : Int32) (q : SQ) : Option (Int32 × SQ) :=
  (if sx_ix (((24 : Int32) + ((3 : Int32) * v3)) + (1 : Int32)) 84 = true then (if sx_ix ((3 : Int32) + ((3 : Int32) * v2)) 27 = true then some (((gI q 2 (((24 : Int32) + ((3 : Int32) * v3)) + (1 : Int32)).toNatClampNeg) * (gI q r1 ((3 : Int32) + ((3 : Int32) * v2)).toNatClampNeg)) / (10 : Int32), q) else none) else none)
set_option maxHeartbeats 400000 in
theorem F7_joysOf_ok (l : Launch) (r1 : Nat) (hr1 : iA27 r1) {Q : Option Value → SQ → Prop} (v2 : Int32) (v3 : Int32) (q : SQ) {res : Int32 × SQ} (h : F7_joysOf r1 v2 v3 q = some res) (hk9 : Q (some (.int res.1)) res.2) : PF7_joysOf l Q 0 [(0, .ref 0), (1, .ref r1), (2, .int v2), (3, .int v3)] [] q := by
  unfold F7_joysOf at h
  refine sx_aload_n dX7_joysOf_0 rfl rfl ?_
  refine sx_getR dX7_joysOf_1 (hs := shM_0) (k9 := 9) (hf := rfl) cb_X7 ⟨by decide, rfl, gw_808⟩ ?_
  refine sx_bipush (v := (24 : Int32)) dX7_joysOf_4 (by decide) ?_
  refine sx_iconst (v := (3 : Int32)) dX7_joysOf_6 (by decide) ?_
  refine sx_iload_n dX7_joysOf_7 rfl rfl ?_
  refine sx_imul dX7_joysOf_8 ?_
  refine sx_iadd dX7_joysOf_9 ?_
  refine sx_iconst (v := (1 : Int32)) dX7_joysOf_10 (by decide) ?_
  refine sx_iadd dX7_joysOf_11 ?_
  obtain ⟨g9, h⟩ := sx_gd h
  refine sx_iald dX7_joysOf_12 shM_2 (fun _ _ => rfl) (sx_ix_in g9) ?_
  refine sx_aload_n dX7_joysOf_13 rfl rfl ?_
  refine sx_iconst (v := (3 : Int32)) dX7_joysOf_14 (by decide) ?_
  refine sx_iconst (v := (3 : Int32)) dX7_joysOf_15 (by decide) ?_
  refine sx_iload_n dX7_joysOf_16 rfl rfl ?_
  refine sx_imul dX7_joysOf_17 ?_
  refine sx_iadd dX7_joysOf_18 ?_
  obtain ⟨g9, h⟩ := sx_gd h
  refine sx_iald dX7_joysOf_19 hr1 (fun _ _ => rfl) (sx_ix_in g9) ?_
  refine sx_imul dX7_joysOf_20 ?_
  refine sx_bipush (v := (10 : Int32)) dX7_joysOf_21 (by decide) ?_
  refine sx_idiv dX7_joysOf_23 (by decide) ?_
  obtain rfl := Option.some.inj h
  exact sx_iret dX7_joysOf_24 rfl hk9
theorem F7_joysOf_ck (l : Launch) (r1 : Nat) (hr1 : iA27 r1) (v2 : Int32) (v3 : Int32) (q : SQ) {r : Int32 × SQ} (h : F7_joysOf r1 v2 v3 q = some r) : CK shM vwCl KM tfM l yX7_joysOf cX7_joysOf 4 ((some .int)) 0 0 [.ref 0, .ref r1, .int v2, .int v3] q (some (.int r.1)) r.2 :=
  CK.of mi_X7_joysOf (Nat.le_of_ble_eq_true rfl) (F7_joysOf_ok l r1 hr1 v2 v3 q h ⟨rfl, rfl⟩)
theorem mi_X7_starsOf : sx_MI yX7_starsOf cX7_starsOf 5 ((some .int)) 4 := ⟨by decide, ⟨by decide, by decide, by decide +kernel⟩, gw_965, gw_68⟩
abbrev PF7_starsOf (l : Launch) (Q : Option Value → SQ → Prop) : Nat → List (Nat × Value) → List Value → SQ → Prop := XX shM vwCl KM tfM l RX7 cX7_starsOf 5 ((some .int)) { frames := 1, cells := 0, slots := 0, locals := 24 } Q
def F7_starsOf (r1 : Nat) (v2 : Int32) (v3 : Int32) (v4 : Int32) (q : SQ) : Option (Int32 × SQ) :=
  (F7_pagesOf  v2 v3 q).bind (fun z1 => (F7_givenOf  v3 v4 z1.2).bind (fun z2 => (if sx_ix (((3 : Int32) * v2) + (2 : Int32)) 84 = true then some ((((z1.1 * z2.1) * (gI z2.2 2 (((3 : Int32) * v2) + (2 : Int32)).toNatClampNeg)) * (gI z2.2 r1 1)) / (100 : Int32), z2.2) else none)))
set_option maxHeartbeats 400000 in
theorem F7_starsOf_ok (l : Launch) (r1 : Nat) (hr1 : iA27 r1) {Q : Option Value → SQ → Prop} (v2 : Int32) (v3 : Int32) (v4 : Int32) (q : SQ) {res : Int32 × SQ} (h : F7_starsOf r1 v2 v3 v4 q = some res) (hk9 : Q (some (.int res.1)) res.2) : PF7_starsOf l Q 0 [(0, .ref 0), (1, .ref r1), (2, .int v2), (3, .int v3), (4, .int v4)] [] q := by
  unfold F7_starsOf at h
  refine sx_aload_n dX7_starsOf_0 rfl rfl ?_
  refine sx_iload_n dX7_starsOf_1 rfl rfl ?_
  refine sx_iload_n dX7_starsOf_2 rfl rfl ?_
  obtain ⟨z1, hz1, h⟩ := sx_bd h
  refine sx_callV (o := 0) (As := [.int v2, .int v3]) (rest := []) KSM (F7_pagesOf_ck l  v2 v3 q hz1) mi_X7_pagesOf gw_954 rfl ⟨gw_956, gw_43⟩ shM_0 rfl rfl ⟨Nat.le_of_ble_eq_true rfl, Nat.le_of_ble_eq_true rfl⟩ (Nat.le_of_ble_eq_true rfl) dX7_starsOf_3 rfl ?_
  refine sx_aload_n dX7_starsOf_6 rfl rfl ?_
  refine sx_iload_n dX7_starsOf_7 rfl rfl ?_
  refine sx_iload dX7_starsOf_8 rfl ?_
  obtain ⟨z2, hz2, h⟩ := sx_bd h
  refine sx_callV (o := 0) (As := [.int v3, .int v4]) (rest := [.int z1.1]) KSM (F7_givenOf_ck l  v3 v4 z1.2 hz2) mi_X7_givenOf gw_946 rfl ⟨gw_948, gw_42⟩ shM_0 rfl rfl ⟨Nat.le_of_ble_eq_true rfl, Nat.le_of_ble_eq_true rfl⟩ (Nat.le_of_ble_eq_true rfl) dX7_starsOf_10 rfl ?_
  refine sx_imul dX7_starsOf_13 ?_
  refine sx_aload_n dX7_starsOf_14 rfl rfl ?_
  refine sx_getR dX7_starsOf_15 (hs := shM_0) (k9 := 9) (hf := rfl) cb_X7 ⟨by decide, rfl, gw_808⟩ ?_
  refine sx_iconst (v := (3 : Int32)) dX7_starsOf_18 (by decide) ?_
  refine sx_iload_n dX7_starsOf_19 rfl rfl ?_
  refine sx_imul dX7_starsOf_20 ?_
  refine sx_iconst (v := (2 : Int32)) dX7_starsOf_21 (by decide) ?_
  refine sx_iadd dX7_starsOf_22 ?_
  obtain ⟨g9, h⟩ := sx_gd h
  refine sx_iald dX7_starsOf_23 shM_2 (fun _ _ => rfl) (sx_ix_in g9) ?_
  refine sx_imul dX7_starsOf_24 ?_
  refine sx_aload_n dX7_starsOf_25 rfl rfl ?_
  refine sx_iconst (v := (1 : Int32)) dX7_starsOf_26 (by decide) ?_
  refine sx_ialdC (j9 := 1) dX7_starsOf_27 hr1 (fun _ _ => rfl) (by decide) (by decide) ?_
  refine sx_imul dX7_starsOf_28 ?_
  refine sx_bipush (v := (100 : Int32)) dX7_starsOf_29 (by decide) ?_
  refine sx_idiv dX7_starsOf_31 (by decide) ?_
  obtain rfl := Option.some.inj h
  exact sx_iret dX7_starsOf_32 rfl hk9
theorem F7_starsOf_ck (l : Launch) (r1 : Nat) (hr1 : iA27 r1) (v2 : Int32) (v3 : Int32) (v4 : Int32) (q : SQ) {r : Int32 × SQ} (h : F7_starsOf r1 v2 v3 v4 q = some r) : CK shM vwCl KM tfM l yX7_starsOf cX7_starsOf 5 ((some .int)) 1 24 [.ref 0, .ref r1, .int v2, .int v3, .int v4] q (some (.int r.1)) r.2 :=
  CK.of mi_X7_starsOf (Nat.le_of_ble_eq_true rfl) (F7_starsOf_ok l r1 hr1 v2 v3 v4 q h ⟨rfl, rfl⟩)
theorem mi_X7_wantOf : sx_MI yX7_wantOf cX7_wantOf 5 ((some .int)) 4 := ⟨by decide, ⟨by decide, by decide, by decide +kernel⟩, gw_969, gw_68⟩
abbrev PF7_wantOf (l : Launch) (Q : Option Value → SQ → Prop) : Nat → List (Nat × Value) → List Value → SQ → Prop := XX shM vwCl KM tfM l RX7 cX7_wantOf 5 ((some .int)) { frames := 2, cells := 0, slots := 0, locals := 48 } Q
def F7_wantOf_31 (r1 : Nat) (s0 : Int32) (s1 : Int32) (q : SQ) : Option (Int32 × SQ) :=
  some (s1 + s0, q)
set_option maxHeartbeats 400000 in
theorem F7_wantOf_31_ok (l : Launch) (r1 : Nat) (hr1 : iA27 r1) {Q : Option Value → SQ → Prop} (s0 : Int32) (s1 : Int32) (q : SQ) {res : Int32 × SQ} (h : F7_wantOf_31 r1 s0 s1 q = some res) (hk9 : Q (some (.int res.1)) res.2) : PF7_wantOf l Q 31 [] [.int s0, .int s1] q := by
  unfold F7_wantOf_31 at h
  refine sx_iadd dX7_wantOf_31 ?_
  obtain rfl := Option.some.inj h
  exact sx_iret dX7_wantOf_32 rfl hk9
def F7_wantOf (r1 : Nat) (v2 : Int32) (v3 : Int32) (v4 : Int32) (q : SQ) : Option (Int32 × SQ) :=
  (F7_joysOf r1 v2 v3 q).bind (fun z1 => (if gI z1.2 2 38 = (1 : Int32) then (F7_starsOf r1 v2 v3 v4 z1.2).bind (fun z2 => F7_wantOf_31 r1 z2.1 z1.1 z2.2) else F7_wantOf_31 r1 (0 : Int32) z1.1 z1.2))
set_option maxHeartbeats 400000 in
theorem F7_wantOf_ok (l : Launch) (r1 : Nat) (hr1 : iA27 r1) {Q : Option Value → SQ → Prop} (v2 : Int32) (v3 : Int32) (v4 : Int32) (q : SQ) {res : Int32 × SQ} (h : F7_wantOf r1 v2 v3 v4 q = some res) (hk9 : Q (some (.int res.1)) res.2) : PF7_wantOf l Q 0 [(0, .ref 0), (1, .ref r1), (2, .int v2), (3, .int v3), (4, .int v4)] [] q := by
  unfold F7_wantOf at h
  refine sx_aload_n dX7_wantOf_0 rfl rfl ?_
  refine sx_aload_n dX7_wantOf_1 rfl rfl ?_
  refine sx_iload_n dX7_wantOf_2 rfl rfl ?_
  refine sx_iload_n dX7_wantOf_3 rfl rfl ?_
  obtain ⟨z1, hz1, h⟩ := sx_bd h
  refine sx_callV (o := 0) (As := [.ref r1, .int v2, .int v3]) (rest := []) KSM (F7_joysOf_ck l r1 hr1 v2 v3 q hz1) mi_X7_joysOf gw_958 rfl ⟨gw_960, gw_44⟩ shM_0 rfl rfl ⟨Nat.le_of_ble_eq_true rfl, Nat.le_of_ble_eq_true rfl⟩ (Nat.le_of_ble_eq_true rfl) dX7_wantOf_4 rfl ?_
  refine sx_aload_n dX7_wantOf_7 rfl rfl ?_
  refine sx_getR dX7_wantOf_8 (hs := shM_0) (k9 := 9) (hf := rfl) cb_X7 ⟨by decide, rfl, gw_808⟩ ?_
  refine sx_bipush (v := (38 : Int32)) dX7_wantOf_11 (by decide) ?_
  refine sx_ialdC (j9 := 38) dX7_wantOf_13 shM_2 (fun _ _ => rfl) (by decide) (by decide) ?_
  refine sx_iconst (v := (1 : Int32)) dX7_wantOf_14 (by decide) ?_
  refine sx_icmp_ne (tgt := 30) dX7_wantOf_15 (by decide) (fun c9 => ?_) (fun c9 => ?_)
  · replace h := sx_in h c9
    refine sx_iconst (v := (0 : Int32)) dX7_wantOf_30 (by decide) ?_
    refine sx_locs [] rfl ?_
    exact F7_wantOf_31_ok l r1 hr1 (0 : Int32) z1.1 z1.2 h hk9
  · replace h := sx_ip h c9
    refine sx_aload_n dX7_wantOf_18 rfl rfl ?_
    refine sx_aload_n dX7_wantOf_19 rfl rfl ?_
    refine sx_iload_n dX7_wantOf_20 rfl rfl ?_
    refine sx_iload_n dX7_wantOf_21 rfl rfl ?_
    refine sx_iload dX7_wantOf_22 rfl ?_
    obtain ⟨z2, hz2, h⟩ := sx_bd h
    refine sx_callV (o := 0) (As := [.ref r1, .int v2, .int v3, .int v4]) (rest := [.int z1.1]) KSM (F7_starsOf_ck l r1 hr1 v2 v3 v4 z1.2 hz2) mi_X7_starsOf gw_962 rfl ⟨gw_964, gw_45⟩ shM_0 rfl rfl ⟨Nat.le_of_ble_eq_true rfl, Nat.le_of_ble_eq_true rfl⟩ (Nat.le_of_ble_eq_true rfl) dX7_wantOf_24 rfl ?_
    refine sx_goto (tgt := 31) dX7_wantOf_27 (by decide) ?_
    refine sx_locs [] rfl ?_
    exact F7_wantOf_31_ok l r1 hr1 z2.1 z1.1 z2.2 h hk9
theorem F7_wantOf_ck (l : Launch) (r1 : Nat) (hr1 : iA27 r1) (v2 : Int32) (v3 : Int32) (v4 : Int32) (q : SQ) {r : Int32 × SQ} (h : F7_wantOf r1 v2 v3 v4 q = some r) : CK shM vwCl KM tfM l yX7_wantOf cX7_wantOf 5 ((some .int)) 2 48 [.ref 0, .ref r1, .int v2, .int v3, .int v4] q (some (.int r.1)) r.2 :=
  CK.of mi_X7_wantOf (Nat.le_of_ble_eq_true rfl) (F7_wantOf_ok l r1 hr1 v2 v3 v4 q h ⟨rfl, rfl⟩)
theorem mi_X7_choiceOf : sx_MI yX7_choiceOf cX7_choiceOf 8 ((some .int)) 3 := ⟨by decide, ⟨by decide, by decide, by decide +kernel⟩, gw_977, gw_68⟩
abbrev PF7_choiceOf (l : Launch) (Q : Option Value → SQ → Prop) : Nat → List (Nat × Value) → List Value → SQ → Prop := XX shM vwCl KM tfM l RX7 cX7_choiceOf 8 ((some .int)) { frames := 3, cells := 0, slots := 0, locals := 72 } Q
def F7_choiceOf_70 (r1 : Nat) (v2 : Int32) (v3 : Int32) (v4 : Int32) (v6 : Int32) (s0 : Int32) (q : SQ) : Option ((Int32 × Int32 × Int32 × SQ) ⊕ (Int32 × SQ)) :=
  sx_let (v6 + (1 : Int32)) (fun x4 => some (.inl (v4, s0, x4, q)))
set_option maxHeartbeats 400000 in
theorem F7_choiceOf_70_ok (l : Launch) (r1 : Nat) (hr1 : iA27 r1) {Q : Option Value → SQ → Prop} (v2 : Int32) (v3 : Int32) (v4 : Int32) (v6 : Int32) (s0 : Int32) (q : SQ) {res : (Int32 × Int32 × Int32 × SQ) ⊕ (Int32 × SQ)} (h : F7_choiceOf_70 r1 v2 v3 v4 v6 s0 q = some res) (hk9 : (∀ a5, res = .inl a5 → PF7_choiceOf l Q 17 [(0, .ref 0), (1, .ref r1), (2, .int v2), (3, .int v3), (4, .int a5.1), (5, .int a5.2.1), (6, .int a5.2.2.1)] [] a5.2.2.2) ∧ (∀ b6, res = .inr b6 → Q (some (.int b6.1)) b6.2)) : PF7_choiceOf l Q 70 [(0, .ref 0), (1, .ref r1), (2, .int v2), (3, .int v3), (4, .int v4), (6, .int v6)] [.int s0] q := by
  unfold F7_choiceOf_70 at h
  refine sx_istore (ls2 := [(5, .int s0), (0, .ref 0), (1, .ref r1), (2, .int v2), (3, .int v3), (4, .int v4), (6, .int v6)]) dX7_choiceOf_70 (by decide) rfl ?_
  obtain ⟨x4, ex4, h⟩ := sx_lt h
  refine sx_iinc (k9 := 6) (v := x4) (ls2 := [(6, .int x4), (5, .int s0), (0, .ref 0), (1, .ref r1), (2, .int v2), (3, .int v3), (4, .int v4)]) dX7_choiceOf_72 rfl (by rw [ex4, sx_ofI1]) (by decide) rfl ?_
  refine sx_goto (tgt := 17) dX7_choiceOf_75 (by decide) ?_
  refine sx_locs [2, 3, 4, 5, 6, 1, 0] rfl ?_
  exact hk9.1 (v4, s0, x4, q) (Option.some.inj h).symm
def F7_choiceOf_54 (r1 : Nat) (v2 : Int32) (v3 : Int32) (v5 : Int32) (v6 : Int32) (v7 : Int32) (s0 : Int32) (q : SQ) : Option ((Int32 × Int32 × Int32 × SQ) ⊕ (Int32 × SQ)) :=
  (if v7 ≤ v5 then F7_choiceOf_70 r1 v2 v3 s0 v6 v5 q else F7_choiceOf_70 r1 v2 v3 s0 v6 v7 q)
set_option maxHeartbeats 400000 in
theorem F7_choiceOf_54_ok (l : Launch) (r1 : Nat) (hr1 : iA27 r1) {Q : Option Value → SQ → Prop} (v2 : Int32) (v3 : Int32) (v5 : Int32) (v6 : Int32) (v7 : Int32) (s0 : Int32) (q : SQ) {res : (Int32 × Int32 × Int32 × SQ) ⊕ (Int32 × SQ)} (h : F7_choiceOf_54 r1 v2 v3 v5 v6 v7 s0 q = some res) (hk9 : (∀ a7, res = .inl a7 → PF7_choiceOf l Q 17 [(0, .ref 0), (1, .ref r1), (2, .int v2), (3, .int v3), (4, .int a7.1), (5, .int a7.2.1), (6, .int a7.2.2.1)] [] a7.2.2.2) ∧ (∀ b8, res = .inr b8 → Q (some (.int b8.1)) b8.2)) : PF7_choiceOf l Q 54 [(0, .ref 0), (1, .ref r1), (2, .int v2), (3, .int v3), (5, .int v5), (6, .int v6), (7, .int v7)] [.int s0] q := by
  unfold F7_choiceOf_54 at h
  refine sx_istore (ls2 := [(4, .int s0), (0, .ref 0), (1, .ref r1), (2, .int v2), (3, .int v3), (5, .int v5), (6, .int v6), (7, .int v7)]) dX7_choiceOf_54 (by decide) rfl ?_
  refine sx_iload dX7_choiceOf_56 rfl ?_
  refine sx_iload dX7_choiceOf_58 rfl ?_
  refine sx_icmp_le (tgt := 68) dX7_choiceOf_60 (by decide) (fun c9 => ?_) (fun c9 => ?_)
  · replace h := sx_ip h c9
    refine sx_iload dX7_choiceOf_68 rfl ?_
    refine sx_locs [1, 2, 3, 4, 0, 6] rfl ?_
    exact F7_choiceOf_70_ok l r1 hr1 v2 v3 s0 v6 v5 q h hk9
  · replace h := sx_in h c9
    refine sx_iload dX7_choiceOf_63 rfl ?_
    refine sx_goto (tgt := 70) dX7_choiceOf_65 (by decide) ?_
    refine sx_locs [1, 2, 3, 4, 0, 6] rfl ?_
    exact F7_choiceOf_70_ok l r1 hr1 v2 v3 s0 v6 v7 q h hk9
def F7_choiceOf_17b (r1 : Nat) (v2 : Int32) (v3 : Int32) (v4 : Int32) (v5 : Int32) (v6 : Int32) (q : SQ) : Option ((Int32 × Int32 × Int32 × SQ) ⊕ (Int32 × SQ)) :=
  (if gI q 2 41 ≤ v6 then some (.inr (v4, q)) else (F7_wantOf r1 v2 v6 v3 q).bind (fun z2 => sx_let z2.1 (fun x3 => (if x3 ≤ v5 then F7_choiceOf_54 r1 v2 v3 v5 v6 x3 v4 z2.2 else F7_choiceOf_54 r1 v2 v3 v5 v6 x3 v6 z2.2))))
set_option maxHeartbeats 400000 in
theorem F7_choiceOf_17b_ok (l : Launch) (r1 : Nat) (hr1 : iA27 r1) {Q : Option Value → SQ → Prop} (v2 : Int32) (v3 : Int32) (v4 : Int32) (v5 : Int32) (v6 : Int32) (q : SQ) {res : (Int32 × Int32 × Int32 × SQ) ⊕ (Int32 × SQ)} (h : F7_choiceOf_17b r1 v2 v3 v4 v5 v6 q = some res) (hk9 : (∀ a9, res = .inl a9 → PF7_choiceOf l Q 17 [(0, .ref 0), (1, .ref r1), (2, .int v2), (3, .int v3), (4, .int a9.1), (5, .int a9.2.1), (6, .int a9.2.2.1)] [] a9.2.2.2) ∧ (∀ b10, res = .inr b10 → Q (some (.int b10.1)) b10.2)) : PF7_choiceOf l Q 17 [(0, .ref 0), (1, .ref r1), (2, .int v2), (3, .int v3), (4, .int v4), (5, .int v5), (6, .int v6)] [] q := by
  unfold F7_choiceOf_17b at h
  refine sx_iload dX7_choiceOf_17 rfl ?_
  refine sx_aload_n dX7_choiceOf_19 rfl rfl ?_
  refine sx_getR dX7_choiceOf_20 (hs := shM_0) (k9 := 9) (hf := rfl) cb_X7 ⟨by decide, rfl, gw_808⟩ ?_
  refine sx_bipush (v := (41 : Int32)) dX7_choiceOf_23 (by decide) ?_
  refine sx_ialdC (j9 := 41) dX7_choiceOf_25 shM_2 (fun _ _ => rfl) (by decide) (by decide) ?_
  refine sx_icmp_ge (tgt := 78) dX7_choiceOf_26 (by decide) (fun c9 => ?_) (fun c9 => ?_)
  · replace h := sx_ip h c9
    refine sx_iload dX7_choiceOf_78 rfl ?_
    have hk9 := hk9.2 _ (Option.some.inj h).symm
    exact sx_iret dX7_choiceOf_80 rfl hk9
  · replace h := sx_in h c9
    refine sx_aload_n dX7_choiceOf_29 rfl rfl ?_
    refine sx_aload_n dX7_choiceOf_30 rfl rfl ?_
    refine sx_iload_n dX7_choiceOf_31 rfl rfl ?_
    refine sx_iload dX7_choiceOf_32 rfl ?_
    refine sx_iload_n dX7_choiceOf_34 rfl rfl ?_
    obtain ⟨z2, hz2, h⟩ := sx_bd h
    refine sx_callV (o := 0) (As := [.ref r1, .int v2, .int v6, .int v3]) (rest := []) KSM (F7_wantOf_ck l r1 hr1 v2 v6 v3 q hz2) mi_X7_wantOf gw_966 rfl ⟨gw_968, gw_46⟩ shM_0 rfl rfl ⟨Nat.le_of_ble_eq_true rfl, Nat.le_of_ble_eq_true rfl⟩ (Nat.le_of_ble_eq_true rfl) dX7_choiceOf_35 rfl ?_
    obtain ⟨x3, ex3, h⟩ := sx_lt h
    refine sx_nmI ex3 ?_
    refine sx_istore (ls2 := [(7, .int x3), (0, .ref 0), (1, .ref r1), (2, .int v2), (3, .int v3), (4, .int v4), (5, .int v5), (6, .int v6)]) dX7_choiceOf_38 (by decide) rfl ?_
    refine sx_iload dX7_choiceOf_40 rfl ?_
    refine sx_iload dX7_choiceOf_42 rfl ?_
    refine sx_icmp_le (tgt := 52) dX7_choiceOf_44 (by decide) (fun c9 => ?_) (fun c9 => ?_)
    · replace h := sx_ip h c9
      refine sx_iload dX7_choiceOf_52 rfl ?_
      refine sx_locs [1, 2, 3, 4, 6, 7, 0] rfl ?_
      exact F7_choiceOf_54_ok l r1 hr1 v2 v3 v5 v6 x3 v4 z2.2 h hk9
    · replace h := sx_in h c9
      refine sx_iload dX7_choiceOf_47 rfl ?_
      refine sx_goto (tgt := 54) dX7_choiceOf_49 (by decide) ?_
      refine sx_locs [1, 2, 3, 4, 6, 7, 0] rfl ?_
      exact F7_choiceOf_54_ok l r1 hr1 v2 v3 v5 v6 x3 v6 z2.2 h hk9
def F7_choiceOf_17 (r1 : Nat) (v2 : Int32) (v3 : Int32) (v4 : Int32) (v5 : Int32) (v6 : Int32) (q : SQ) : Option (Int32 × SQ) := sx_loop (fun s11 => F7_choiceOf_17b r1 v2 v3 s11.1 s11.2.1 s11.2.2.1 s11.2.2.2) FU (v4, v5, v6, q)
set_option maxHeartbeats 400000 in
theorem F7_choiceOf_17_ok (l : Launch) (r1 : Nat) (hr1 : iA27 r1) {Q : Option Value → SQ → Prop} (v2 : Int32) (v3 : Int32) (v4 : Int32) (v5 : Int32) (v6 : Int32) (q : SQ) {t : Int32 × SQ} (h : F7_choiceOf_17 r1 v2 v3 v4 v5 v6 q = some t) (hk9 : Q (some (.int t.1)) t.2) : PF7_choiceOf l Q 17 [(0, .ref 0), (1, .ref r1), (2, .int v2), (3, .int v3), (4, .int v4), (5, .int v5), (6, .int v6)] [] q := by
  unfold F7_choiceOf_17 at h
  have st : ∀ (s : Int32 × Int32 × Int32 × SQ) (res : (Int32 × Int32 × Int32 × SQ) ⊕ (Int32 × SQ)), F7_choiceOf_17b r1 v2 v3 s.1 s.2.1 s.2.2.1 s.2.2.2 = some res → (∀ s2, res = .inl s2 → PF7_choiceOf l Q 17 [(0, .ref 0), (1, .ref r1), (2, .int v2), (3, .int v3), (4, .int s2.1), (5, .int s2.2.1), (6, .int s2.2.2.1)] [] s2.2.2.2) → (∀ t2, res = .inr t2 → Q (some (.int t2.1)) t2.2) → PF7_choiceOf l Q 17 [(0, .ref 0), (1, .ref r1), (2, .int v2), (3, .int v3), (4, .int s.1), (5, .int s.2.1), (6, .int s.2.2.1)] [] s.2.2.2 :=
    fun s res hb hi ho => F7_choiceOf_17b_ok l r1 hr1 v2 v3 s.1 s.2.1 s.2.2.1 s.2.2.2 hb ⟨hi, ho⟩
  have h9 : PF7_choiceOf l Q 17 [(0, .ref 0), (1, .ref r1), (2, .int v2), (3, .int v3), (4, .int v4), (5, .int v5), (6, .int v6)] [] q := sx_lp (body := fun s => F7_choiceOf_17b r1 v2 v3 s.1 s.2.1 s.2.2.1 s.2.2.2) (P := fun s => PF7_choiceOf l Q 17 [(0, .ref 0), (1, .ref r1), (2, .int v2), (3, .int v3), (4, .int s.1), (5, .int s.2.1), (6, .int s.2.2.1)] [] s.2.2.2) (T := fun t => Q (some (.int t.1)) t.2) st FU (v4, v5, v6, q) t h hk9
  exact h9
def F7_choiceOf (r1 : Nat) (v2 : Int32) (v3 : Int32) (q : SQ) : Option (Int32 × SQ) :=
  sx_let ((gI q 3 0) - (1 : Int32)) (fun x1 => F7_choiceOf_17 r1 v2 v3 (-9 : Int32) x1 (0 : Int32) q)
set_option maxHeartbeats 400000 in
theorem F7_choiceOf_ok (l : Launch) (r1 : Nat) (hr1 : iA27 r1) {Q : Option Value → SQ → Prop} (v2 : Int32) (v3 : Int32) (q : SQ) {res : Int32 × SQ} (h : F7_choiceOf r1 v2 v3 q = some res) (hk9 : Q (some (.int res.1)) res.2) : PF7_choiceOf l Q 0 [(0, .ref 0), (1, .ref r1), (2, .int v2), (3, .int v3)] [] q := by
  unfold F7_choiceOf at h
  refine sx_bipush (v := (-9 : Int32)) dX7_choiceOf_0 (by decide) ?_
  refine sx_istore (ls2 := [(4, .int (-9 : Int32)), (0, .ref 0), (1, .ref r1), (2, .int v2), (3, .int v3)]) dX7_choiceOf_2 (by decide) rfl ?_
  refine sx_aload_n dX7_choiceOf_4 rfl rfl ?_
  refine sx_getR dX7_choiceOf_5 (hs := shM_0) (k9 := 10) (hf := rfl) cb_X7 ⟨by decide, rfl, gw_809⟩ ?_
  refine sx_iconst (v := (0 : Int32)) dX7_choiceOf_8 (by decide) ?_
  refine sx_ialdC (j9 := 0) dX7_choiceOf_9 shM_3 (fun _ _ => rfl) (by decide) (by decide) ?_
  refine sx_iconst (v := (1 : Int32)) dX7_choiceOf_10 (by decide) ?_
  refine sx_isub dX7_choiceOf_11 ?_
  obtain ⟨x1, ex1, h⟩ := sx_lt h
  refine sx_nmI ex1 ?_
  refine sx_istore (ls2 := [(5, .int x1), (4, .int (-9 : Int32)), (0, .ref 0), (1, .ref r1), (2, .int v2), (3, .int v3)]) dX7_choiceOf_12 (by decide) rfl ?_
  refine sx_iconst (v := (0 : Int32)) dX7_choiceOf_14 (by decide) ?_
  refine sx_istore (ls2 := [(6, .int (0 : Int32)), (5, .int x1), (4, .int (-9 : Int32)), (0, .ref 0), (1, .ref r1), (2, .int v2), (3, .int v3)]) dX7_choiceOf_15 (by decide) rfl ?_
  refine sx_locs [3, 4, 5, 6, 2, 1, 0] rfl ?_
  exact F7_choiceOf_17_ok l r1 hr1 v2 v3 (-9 : Int32) x1 (0 : Int32) q h hk9
theorem F7_choiceOf_ck (l : Launch) (r1 : Nat) (hr1 : iA27 r1) (v2 : Int32) (v3 : Int32) (q : SQ) {r : Int32 × SQ} (h : F7_choiceOf r1 v2 v3 q = some r) : CK shM vwCl KM tfM l yX7_choiceOf cX7_choiceOf 8 ((some .int)) 3 72 [.ref 0, .ref r1, .int v2, .int v3] q (some (.int r.1)) r.2 :=
  CK.of mi_X7_choiceOf (Nat.le_of_ble_eq_true rfl) (F7_choiceOf_ok l r1 hr1 v2 v3 q h ⟨rfl, rfl⟩)
