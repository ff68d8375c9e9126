theorem mi_X7_advances : sx_MI yX7_advances cX7_advances 4 (none) 0 := ⟨by decide, ⟨by decide, by decide, by decide +kernel⟩, gw_880, gw_68⟩
abbrev PF7_advances (l : Launch) (Q : Option Value → SQ → Prop) : Nat → List (Nat × Value) → List Value → SQ → Prop := XX shM vwCl KM tfM l RX7 cX7_advances 4 (none) { frames := 3, cells := 0, slots := 0, locals := 68 } Q
def F7_advances_307  (s0 : Int32) (q : SQ) : Option (Unit × SQ) :=
  sx_let (sI q 0 5 s0) (fun q8 => some ((), q8))
set_option maxHeartbeats 400000 in
theorem F7_advances_307_ok (l : Launch)  {Q : Option Value → SQ → Prop} (s0 : Int32) (q : SQ) {res : Unit × SQ} (h : F7_advances_307  s0 q = some res) (hk9 : Q none res.2) : PF7_advances l Q 307 [] [.int s0, .ref 0] q := by
  unfold F7_advances_307 at h
  obtain ⟨q8, eq8, h⟩ := sx_lt h
  refine sx_putI dX7_advances_307 (hs := shM_0) (k9 := 5) (hf := rfl) cb_X7 ⟨by decide, rfl, gw_804⟩ rfl (by decide) ?_
  refine sx_nmQ eq8 ?_
  obtain rfl := Option.some.inj h
  exact sx_vret dX7_advances_310 rfl hk9
def F7_advances_279  (s0 : Int32) (q : SQ) : Option (Unit × SQ) :=
  sx_let (sI q 0 5 s0) (fun q12 => some ((), q12))
set_option maxHeartbeats 400000 in
theorem F7_advances_279_ok (l : Launch)  {Q : Option Value → SQ → Prop} (s0 : Int32) (q : SQ) {res : Unit × SQ} (h : F7_advances_279  s0 q = some res) (hk9 : Q none res.2) : PF7_advances l Q 279 [] [.int s0, .ref 0] q := by
  unfold F7_advances_279 at h
  obtain ⟨q12, eq12, h⟩ := sx_lt h
  refine sx_putI dX7_advances_279 (hs := shM_0) (k9 := 5) (hf := rfl) cb_X7 ⟨by decide, rfl, gw_804⟩ rfl (by decide) ?_
  refine sx_nmQ eq12 ?_
  refine sx_goto (tgt := 310) dX7_advances_282 (by decide) ?_
  obtain rfl := Option.some.inj h
  exact sx_vret dX7_advances_310 rfl hk9
def F7_advances_274   (q : SQ) : Option (Unit × SQ) :=
  F7_advances_279  (4 : Int32) q
set_option maxHeartbeats 400000 in
theorem F7_advances_274_ok (l : Launch)  {Q : Option Value → SQ → Prop}  (q : SQ) {res : Unit × SQ} (h : F7_advances_274   q = some res) (hk9 : Q none res.2) : PF7_advances l Q 274 [] [.ref 0] q := by
  unfold F7_advances_274 at h
  refine sx_iconst (v := (4 : Int32)) dX7_advances_274 (by decide) ?_
  refine sx_goto (tgt := 279) dX7_advances_275 (by decide) ?_
  exact F7_advances_279_ok l  (4 : Int32) q h hk9
def F7_advances_278   (q : SQ) : Option (Unit × SQ) :=
  F7_advances_279  (2 : Int32) q
set_option maxHeartbeats 400000 in
theorem F7_advances_278_ok (l : Launch)  {Q : Option Value → SQ → Prop}  (q : SQ) {res : Unit × SQ} (h : F7_advances_278   q = some res) (hk9 : Q none res.2) : PF7_advances l Q 278 [] [.ref 0] q := by
  unfold F7_advances_278 at h
  refine sx_iconst (v := (2 : Int32)) dX7_advances_278 (by decide) ?_
  exact F7_advances_279_ok l  (2 : Int32) q h hk9
def F7_advances_229  (v1 : Int32) (s0 : Int32) (q : SQ) : Option ((SQ) ⊕ (Unit × SQ)) :=
  sx_let (sI q 0 7 s0) (fun q14 => sx_let (sI q14 0 4 ((gI q14 0 4) + (1 : Int32))) (fun q15 => some (.inl (q15))))
set_option maxHeartbeats 400000 in
theorem F7_advances_229_ok (l : Launch)  {Q : Option Value → SQ → Prop} (v1 : Int32) (s0 : Int32) (q : SQ) {res : (SQ) ⊕ (Unit × SQ)} (h : F7_advances_229  v1 s0 q = some res) (hk9 : (∀ a16, res = .inl a16 → PF7_advances l Q 175 [(0, .ref 0), (1, .int v1)] [] a16) ∧ (∀ b17, res = .inr b17 → Q none b17.2)) : PF7_advances l Q 229 [(0, .ref 0), (1, .int v1)] [.int s0, .ref 0] q := by
  unfold F7_advances_229 at h
  obtain ⟨q14, eq14, h⟩ := sx_lt h
  refine sx_putI dX7_advances_229 (hs := shM_0) (k9 := 7) (hf := rfl) cb_X7 ⟨by decide, rfl, gw_806⟩ rfl (by decide) ?_
  refine sx_nmQ eq14 ?_
  refine sx_aload_n dX7_advances_232 rfl rfl ?_
  refine sx_dup dX7_advances_233 rfl ?_
  refine sx_getI dX7_advances_234 (hs := shM_0) (k9 := 4) (hf := rfl) cb_X7 ⟨by decide, rfl, gw_803⟩ ?_
  refine sx_iconst (v := (1 : Int32)) dX7_advances_237 (by decide) ?_
  refine sx_iadd dX7_advances_238 ?_
  obtain ⟨q15, eq15, h⟩ := sx_lt h
  refine sx_putI dX7_advances_239 (hs := shM_0) (k9 := 4) (hf := rfl) cb_X7 ⟨by decide, rfl, gw_803⟩ rfl (by decide) ?_
  refine sx_nmQ eq15 ?_
  refine sx_goto (tgt := 175) dX7_advances_242 (by decide) ?_
  exact hk9.1 (q15) (Option.some.inj h).symm
def F7_advances_175b  (v1 : Int32) (q : SQ) : Option ((SQ) ⊕ (Unit × SQ)) :=
  (F7_byteAt  (gI q 0 4) q).bind (fun z10 => (F7_in  z10.1 (48 : Int32) (57 : Int32) z10.2).bind (fun z11 => (if z11.1 = 0 then (if (100 : Int32) < gI z11.2 0 7 then (F7_advances_274   z11.2).map .inr else (if v1 = (48 : Int32) then (if (gI z11.2 0 4) - (gI z11.2 0 6) ≤ (1 : Int32) then (F7_advances_278   z11.2).map .inr else (F7_advances_274   z11.2).map .inr) else (F7_advances_278   z11.2).map .inr)) else (if gI z11.2 0 7 ≤ (100 : Int32) then (F7_byteAt  (gI z11.2 0 4) z11.2).bind (fun z13 => F7_advances_229  v1 ((((10 : Int32) * (gI z11.2 0 7)) + z13.1) - (48 : Int32)) z13.2) else F7_advances_229  v1 (gI z11.2 0 7) z11.2))))
set_option maxHeartbeats 400000 in
theorem F7_advances_175b_ok (l : Launch)  {Q : Option Value → SQ → Prop} (v1 : Int32) (q : SQ) {res : (SQ) ⊕ (Unit × SQ)} (h : F7_advances_175b  v1 q = some res) (hk9 : (∀ a18, res = .inl a18 → PF7_advances l Q 175 [(0, .ref 0), (1, .int v1)] [] a18) ∧ (∀ b19, res = .inr b19 → Q none b19.2)) : PF7_advances l Q 175 [(0, .ref 0), (1, .int v1)] [] q := by
  unfold F7_advances_175b at h
  refine sx_aload_n dX7_advances_175 rfl rfl ?_
  refine sx_aload_n dX7_advances_176 rfl rfl ?_
  refine sx_getI dX7_advances_177 (hs := shM_0) (k9 := 4) (hf := rfl) cb_X7 ⟨by decide, rfl, gw_803⟩ ?_
  obtain ⟨z10, hz10, h⟩ := sx_bd h
  refine sx_callV (o := 0) (As := [.int (gI q 0 4)]) (rest := []) KSM (F7_byteAt_ck l  (gI q 0 4) q hz10) mi_X7_byteAt gw_881 rfl ⟨gw_883, gw_34⟩ shM_0 rfl rfl ⟨Nat.le_of_ble_eq_true rfl, Nat.le_of_ble_eq_true rfl⟩ (Nat.le_of_ble_eq_true rfl) dX7_advances_180 rfl ?_
  refine sx_bipush (v := (48 : Int32)) dX7_advances_183 (by decide) ?_
  refine sx_bipush (v := (57 : Int32)) dX7_advances_185 (by decide) ?_
  obtain ⟨z11, hz11, h⟩ := sx_bd h
  refine sx_callS (As := [.int z10.1, .int (48 : Int32), .int (57 : Int32)]) (rest := []) KSM (F7_in_ck l  z10.1 (48 : Int32) (57 : Int32) z10.2 hz11) mi_X7_in gw_865 rfl gw_866 ⟨Nat.le_of_ble_eq_true rfl, Nat.le_of_ble_eq_true rfl⟩ (Nat.le_of_ble_eq_true rfl) dX7_advances_187 rfl ?_
  refine sx_if_eq (tgt := 245) dX7_advances_190 (by decide) (fun c9 => ?_) (fun c9 => ?_)
  · replace h := sx_ip h c9
    refine sx_aload_n dX7_advances_245 rfl rfl ?_
    refine sx_aload_n dX7_advances_246 rfl rfl ?_
    refine sx_getI dX7_advances_247 (hs := shM_0) (k9 := 7) (hf := rfl) cb_X7 ⟨by decide, rfl, gw_806⟩ ?_
    refine sx_bipush (v := (100 : Int32)) dX7_advances_250 (by decide) ?_
    refine sx_icmp_gt (tgt := 274) dX7_advances_252 (by decide) (fun c9 => ?_) (fun c9 => ?_)
    · replace h := sx_ip h c9
      obtain ⟨t9, h, hr9⟩ := sx_mp h
      have hk9 := hk9.2 _ hr9
      refine sx_locs [] rfl ?_
      exact F7_advances_274_ok l   z11.2 h hk9
    · replace h := sx_in h c9
      refine sx_iload_n dX7_advances_255 rfl rfl ?_
      refine sx_bipush (v := (48 : Int32)) dX7_advances_256 (by decide) ?_
      refine sx_icmp_ne (tgt := 278) dX7_advances_258 (by decide) (fun c9 => ?_) (fun c9 => ?_)
      · replace h := sx_in h c9
        obtain ⟨t9, h, hr9⟩ := sx_mp h
        have hk9 := hk9.2 _ hr9
        refine sx_locs [] rfl ?_
        exact F7_advances_278_ok l   z11.2 h hk9
      · replace h := sx_ip h c9
        refine sx_aload_n dX7_advances_261 rfl rfl ?_
        refine sx_getI dX7_advances_262 (hs := shM_0) (k9 := 4) (hf := rfl) cb_X7 ⟨by decide, rfl, gw_803⟩ ?_
        refine sx_aload_n dX7_advances_265 rfl rfl ?_
        refine sx_getI dX7_advances_266 (hs := shM_0) (k9 := 6) (hf := rfl) cb_X7 ⟨by decide, rfl, gw_805⟩ ?_
        refine sx_isub dX7_advances_269 ?_
        refine sx_iconst (v := (1 : Int32)) dX7_advances_270 (by decide) ?_
        refine sx_icmp_le (tgt := 278) dX7_advances_271 (by decide) (fun c9 => ?_) (fun c9 => ?_)
        · replace h := sx_ip h c9
          obtain ⟨t9, h, hr9⟩ := sx_mp h
          have hk9 := hk9.2 _ hr9
          refine sx_locs [] rfl ?_
          exact F7_advances_278_ok l   z11.2 h hk9
        · replace h := sx_in h c9
          obtain ⟨t9, h, hr9⟩ := sx_mp h
          have hk9 := hk9.2 _ hr9
          refine sx_locs [] rfl ?_
          exact F7_advances_274_ok l   z11.2 h hk9
  · replace h := sx_in h c9
    refine sx_aload_n dX7_advances_193 rfl rfl ?_
    refine sx_aload_n dX7_advances_194 rfl rfl ?_
    refine sx_getI dX7_advances_195 (hs := shM_0) (k9 := 7) (hf := rfl) cb_X7 ⟨by decide, rfl, gw_806⟩ ?_
    refine sx_bipush (v := (100 : Int32)) dX7_advances_198 (by decide) ?_
    refine sx_icmp_le (tgt := 210) dX7_advances_200 (by decide) (fun c9 => ?_) (fun c9 => ?_)
    · replace h := sx_ip h c9
      refine sx_bipush (v := (10 : Int32)) dX7_advances_210 (by decide) ?_
      refine sx_aload_n dX7_advances_212 rfl rfl ?_
      refine sx_getI dX7_advances_213 (hs := shM_0) (k9 := 7) (hf := rfl) cb_X7 ⟨by decide, rfl, gw_806⟩ ?_
      refine sx_imul dX7_advances_216 ?_
      refine sx_aload_n dX7_advances_217 rfl rfl ?_
      refine sx_aload_n dX7_advances_218 rfl rfl ?_
      refine sx_getI dX7_advances_219 (hs := shM_0) (k9 := 4) (hf := rfl) cb_X7 ⟨by decide, rfl, gw_803⟩ ?_
      obtain ⟨z13, hz13, h⟩ := sx_bd h
      refine sx_callV (o := 0) (As := [.int (gI z11.2 0 4)]) (rest := [.int ((10 : Int32) * (gI z11.2 0 7)), .ref 0]) KSM (F7_byteAt_ck l  (gI z11.2 0 4) z11.2 hz13) mi_X7_byteAt gw_881 rfl ⟨gw_883, gw_34⟩ shM_0 rfl rfl ⟨Nat.le_of_ble_eq_true rfl, Nat.le_of_ble_eq_true rfl⟩ (Nat.le_of_ble_eq_true rfl) dX7_advances_222 rfl ?_
      refine sx_iadd dX7_advances_225 ?_
      refine sx_bipush (v := (48 : Int32)) dX7_advances_226 (by decide) ?_
      refine sx_isub dX7_advances_228 ?_
      exact F7_advances_229_ok l  v1 ((((10 : Int32) * (gI z11.2 0 7)) + z13.1) - (48 : Int32)) z13.2 h hk9
    · replace h := sx_in h c9
      refine sx_aload_n dX7_advances_203 rfl rfl ?_
      refine sx_getI dX7_advances_204 (hs := shM_0) (k9 := 7) (hf := rfl) cb_X7 ⟨by decide, rfl, gw_806⟩ ?_
      refine sx_goto (tgt := 229) dX7_advances_207 (by decide) ?_
      exact F7_advances_229_ok l  v1 (gI z11.2 0 7) z11.2 h hk9
def F7_advances_175  (v1 : Int32) (q : SQ) : Option (Unit × SQ) := sx_loop (fun s20 => F7_advances_175b  v1 s20) FU (q)
set_option maxHeartbeats 400000 in
theorem F7_advances_175_ok (l : Launch)  {Q : Option Value → SQ → Prop} (v1 : Int32) (q : SQ) {t : Unit × SQ} (h : F7_advances_175  v1 q = some t) (hk9 : Q none t.2) : PF7_advances l Q 175 [(0, .ref 0), (1, .int v1)] [] q := by
  unfold F7_advances_175 at h
  have st : ∀ (s : SQ) (res : (SQ) ⊕ (Unit × SQ)), F7_advances_175b  v1 s = some res → (∀ s2, res = .inl s2 → PF7_advances l Q 175 [(0, .ref 0), (1, .int v1)] [] s2) → (∀ t2, res = .inr t2 → Q none t2.2) → PF7_advances l Q 175 [(0, .ref 0), (1, .int v1)] [] s :=
    fun s res hb hi ho => F7_advances_175b_ok l  v1 s hb ⟨hi, ho⟩
  have h9 : PF7_advances l Q 175 [(0, .ref 0), (1, .int v1)] [] q := sx_lp (body := fun s => F7_advances_175b  v1 s) (P := fun s => PF7_advances l Q 175 [(0, .ref 0), (1, .int v1)] [] s) (T := fun t => Q none t.2) st FU (q) t h hk9
  exact h9
def F7_advances_153  (s0 : Int32) (q : SQ) : Option (Unit × SQ) :=
  sx_let (sI q 0 5 s0) (fun q25 => some ((), q25))
set_option maxHeartbeats 400000 in
theorem F7_advances_153_ok (l : Launch)  {Q : Option Value → SQ → Prop} (s0 : Int32) (q : SQ) {res : Unit × SQ} (h : F7_advances_153  s0 q = some res) (hk9 : Q none res.2) : PF7_advances l Q 153 [] [.int s0, .ref 0] q := by
  unfold F7_advances_153 at h
  obtain ⟨q25, eq25, h⟩ := sx_lt h
  refine sx_putI dX7_advances_153 (hs := shM_0) (k9 := 5) (hf := rfl) cb_X7 ⟨by decide, rfl, gw_804⟩ rfl (by decide) ?_
  refine sx_nmQ eq25 ?_
  refine sx_goto (tgt := 310) dX7_advances_156 (by decide) ?_
  obtain rfl := Option.some.inj h
  exact sx_vret dX7_advances_310 rfl hk9
def F7_advances_116  (s0 : Int64) (q : SQ) : Option ((Int64 × SQ) ⊕ (Unit × SQ)) :=
  sx_let (sI q 0 4 ((gI q 0 4) + (1 : Int32))) (fun q26 => some (.inl (s0, q26)))
set_option maxHeartbeats 400000 in
theorem F7_advances_116_ok (l : Launch)  {Q : Option Value → SQ → Prop} (s0 : Int64) (q : SQ) {res : (Int64 × SQ) ⊕ (Unit × SQ)} (h : F7_advances_116  s0 q = some res) (hk9 : (∀ a27, res = .inl a27 → PF7_advances l Q 68 [(0, .ref 0), (2, .long a27.1)] [] a27.2) ∧ (∀ b28, res = .inr b28 → Q none b28.2)) : PF7_advances l Q 116 [(0, .ref 0)] [.long s0] q := by
  unfold F7_advances_116 at h
  refine sx_lstore_n (ls2 := [(2, .long s0), (0, .ref 0)]) dX7_advances_116 rfl (by decide) rfl ?_
  refine sx_aload_n dX7_advances_117 rfl rfl ?_
  refine sx_dup dX7_advances_118 rfl ?_
  refine sx_getI dX7_advances_119 (hs := shM_0) (k9 := 4) (hf := rfl) cb_X7 ⟨by decide, rfl, gw_803⟩ ?_
  refine sx_iconst (v := (1 : Int32)) dX7_advances_122 (by decide) ?_
  refine sx_iadd dX7_advances_123 ?_
  obtain ⟨q26, eq26, h⟩ := sx_lt h
  refine sx_putI dX7_advances_124 (hs := shM_0) (k9 := 4) (hf := rfl) cb_X7 ⟨by decide, rfl, gw_803⟩ rfl (by decide) ?_
  refine sx_nmQ eq26 ?_
  refine sx_goto (tgt := 68) dX7_advances_127 (by decide) ?_
  refine sx_locs [1, 0] rfl ?_
  exact hk9.1 (s0, q26) (Option.some.inj h).symm
def F7_advances_68b  (v2 : Int64) (q : SQ) : Option ((Int64 × SQ) ⊕ (Unit × SQ)) :=
  (F7_byteAt  (gI q 0 4) q).bind (fun z21 => (F7_in  z21.1 (97 : Int32) (122 : Int32) z21.2).bind (fun z22 => (if z22.1 = 0 then (F7_wordOf  v2 z22.2).bind (fun z23 => sx_let (sI z23.2 0 7 z23.1) (fun q24 => (if gI q24 0 7 = (-9 : Int32) then (F7_advances_153  (4 : Int32) q24).map .inr else (F7_advances_153  (1 : Int32) q24).map .inr))) else (if (6 : Int32) ≤ (gI z22.2 0 4) - (gI z22.2 0 6) then F7_advances_116  v2 z22.2 else (F7_byteAt  (gI z22.2 0 4) z22.2).bind (fun z29 => (F7_add  v2 z29.1 z29.2).bind (fun z30 => F7_advances_116  z30.1 z30.2))))))
set_option maxHeartbeats 400000 in
theorem F7_advances_68b_ok (l : Launch)  {Q : Option Value → SQ → Prop} (v2 : Int64) (q : SQ) {res : (Int64 × SQ) ⊕ (Unit × SQ)} (h : F7_advances_68b  v2 q = some res) (hk9 : (∀ a31, res = .inl a31 → PF7_advances l Q 68 [(0, .ref 0), (2, .long a31.1)] [] a31.2) ∧ (∀ b32, res = .inr b32 → Q none b32.2)) : PF7_advances l Q 68 [(0, .ref 0), (2, .long v2)] [] q := by
  unfold F7_advances_68b at h
  refine sx_aload_n dX7_advances_68 rfl rfl ?_
  refine sx_aload_n dX7_advances_69 rfl rfl ?_
  refine sx_getI dX7_advances_70 (hs := shM_0) (k9 := 4) (hf := rfl) cb_X7 ⟨by decide, rfl, gw_803⟩ ?_
  obtain ⟨z21, hz21, h⟩ := sx_bd h
  refine sx_callV (o := 0) (As := [.int (gI q 0 4)]) (rest := []) KSM (F7_byteAt_ck l  (gI q 0 4) q hz21) mi_X7_byteAt gw_881 rfl ⟨gw_883, gw_34⟩ shM_0 rfl rfl ⟨Nat.le_of_ble_eq_true rfl, Nat.le_of_ble_eq_true rfl⟩ (Nat.le_of_ble_eq_true rfl) dX7_advances_73 rfl ?_
  refine sx_bipush (v := (97 : Int32)) dX7_advances_76 (by decide) ?_
  refine sx_bipush (v := (122 : Int32)) dX7_advances_78 (by decide) ?_
  obtain ⟨z22, hz22, h⟩ := sx_bd h
  refine sx_callS (As := [.int z21.1, .int (97 : Int32), .int (122 : Int32)]) (rest := []) KSM (F7_in_ck l  z21.1 (97 : Int32) (122 : Int32) z21.2 hz22) mi_X7_in gw_865 rfl gw_866 ⟨Nat.le_of_ble_eq_true rfl, Nat.le_of_ble_eq_true rfl⟩ (Nat.le_of_ble_eq_true rfl) dX7_advances_80 rfl ?_
  refine sx_if_eq (tgt := 130) dX7_advances_83 (by decide) (fun c9 => ?_) (fun c9 => ?_)
  · replace h := sx_ip h c9
    refine sx_aload_n dX7_advances_130 rfl rfl ?_
    refine sx_lload_n dX7_advances_131 rfl rfl ?_
    obtain ⟨z23, hz23, h⟩ := sx_bd h
    refine sx_callS (As := [.long v2]) (rest := [.ref 0]) KSM (F7_wordOf_ck l  v2 z22.2 hz23) mi_X7_wordOf gw_889 rfl gw_890 ⟨Nat.le_of_ble_eq_true rfl, Nat.le_of_ble_eq_true rfl⟩ (Nat.le_of_ble_eq_true rfl) dX7_advances_132 rfl ?_
    obtain ⟨q24, eq24, h⟩ := sx_lt h
    refine sx_putI dX7_advances_135 (hs := shM_0) (k9 := 7) (hf := rfl) cb_X7 ⟨by decide, rfl, gw_806⟩ rfl (by decide) ?_
    refine sx_nmQ eq24 ?_
    refine sx_aload_n dX7_advances_138 rfl rfl ?_
    refine sx_aload_n dX7_advances_139 rfl rfl ?_
    refine sx_getI dX7_advances_140 (hs := shM_0) (k9 := 7) (hf := rfl) cb_X7 ⟨by decide, rfl, gw_806⟩ ?_
    refine sx_bipush (v := (-9 : Int32)) dX7_advances_143 (by decide) ?_
    refine sx_icmp_ne (tgt := 152) dX7_advances_145 (by decide) (fun c9 => ?_) (fun c9 => ?_)
    · replace h := sx_in h c9
      refine sx_iconst (v := (1 : Int32)) dX7_advances_152 (by decide) ?_
      obtain ⟨t9, h, hr9⟩ := sx_mp h
      have hk9 := hk9.2 _ hr9
      refine sx_locs [] rfl ?_
      exact F7_advances_153_ok l  (1 : Int32) q24 h hk9
    · replace h := sx_ip h c9
      refine sx_iconst (v := (4 : Int32)) dX7_advances_148 (by decide) ?_
      refine sx_goto (tgt := 153) dX7_advances_149 (by decide) ?_
      obtain ⟨t9, h, hr9⟩ := sx_mp h
      have hk9 := hk9.2 _ hr9
      refine sx_locs [] rfl ?_
      exact F7_advances_153_ok l  (4 : Int32) q24 h hk9
  · replace h := sx_in h c9
    refine sx_aload_n dX7_advances_86 rfl rfl ?_
    refine sx_getI dX7_advances_87 (hs := shM_0) (k9 := 4) (hf := rfl) cb_X7 ⟨by decide, rfl, gw_803⟩ ?_
    refine sx_aload_n dX7_advances_90 rfl rfl ?_
    refine sx_getI dX7_advances_91 (hs := shM_0) (k9 := 6) (hf := rfl) cb_X7 ⟨by decide, rfl, gw_805⟩ ?_
    refine sx_isub dX7_advances_94 ?_
    refine sx_bipush (v := (6 : Int32)) dX7_advances_95 (by decide) ?_
    refine sx_icmp_ge (tgt := 115) dX7_advances_97 (by decide) (fun c9 => ?_) (fun c9 => ?_)
    · replace h := sx_ip h c9
      refine sx_lload_n dX7_advances_115 rfl rfl ?_
      refine sx_locs [0] rfl ?_
      exact F7_advances_116_ok l  v2 z22.2 h hk9
    · replace h := sx_in h c9
      refine sx_lload_n dX7_advances_100 rfl rfl ?_
      refine sx_aload_n dX7_advances_101 rfl rfl ?_
      refine sx_aload_n dX7_advances_102 rfl rfl ?_
      refine sx_getI dX7_advances_103 (hs := shM_0) (k9 := 4) (hf := rfl) cb_X7 ⟨by decide, rfl, gw_803⟩ ?_
      obtain ⟨z29, hz29, h⟩ := sx_bd h
      refine sx_callV (o := 0) (As := [.int (gI z22.2 0 4)]) (rest := [.long v2]) KSM (F7_byteAt_ck l  (gI z22.2 0 4) z22.2 hz29) mi_X7_byteAt gw_881 rfl ⟨gw_883, gw_34⟩ shM_0 rfl rfl ⟨Nat.le_of_ble_eq_true rfl, Nat.le_of_ble_eq_true rfl⟩ (Nat.le_of_ble_eq_true rfl) dX7_advances_106 rfl ?_
      obtain ⟨z30, hz30, h⟩ := sx_bd h
      refine sx_callS (As := [.long v2, .int z29.1]) (rest := []) KSM (F7_add_ck l  v2 z29.1 z29.2 hz30) mi_X7_add gw_885 rfl gw_886 ⟨Nat.le_of_ble_eq_true rfl, Nat.le_of_ble_eq_true rfl⟩ (Nat.le_of_ble_eq_true rfl) dX7_advances_109 rfl ?_
      refine sx_goto (tgt := 116) dX7_advances_112 (by decide) ?_
      refine sx_locs [0] rfl ?_
      exact F7_advances_116_ok l  z30.1 z30.2 h hk9
def F7_advances_68  (v2 : Int64) (q : SQ) : Option (Unit × SQ) := sx_loop (fun s33 => F7_advances_68b  s33.1 s33.2) FU (v2, q)
set_option maxHeartbeats 400000 in
theorem F7_advances_68_ok (l : Launch)  {Q : Option Value → SQ → Prop} (v2 : Int64) (q : SQ) {t : Unit × SQ} (h : F7_advances_68  v2 q = some t) (hk9 : Q none t.2) : PF7_advances l Q 68 [(0, .ref 0), (2, .long v2)] [] q := by
  unfold F7_advances_68 at h
  have st : ∀ (s : Int64 × SQ) (res : (Int64 × SQ) ⊕ (Unit × SQ)), F7_advances_68b  s.1 s.2 = some res → (∀ s2, res = .inl s2 → PF7_advances l Q 68 [(0, .ref 0), (2, .long s2.1)] [] s2.2) → (∀ t2, res = .inr t2 → Q none t2.2) → PF7_advances l Q 68 [(0, .ref 0), (2, .long s.1)] [] s.2 :=
    fun s res hb hi ho => F7_advances_68b_ok l  s.1 s.2 hb ⟨hi, ho⟩
  have h9 : PF7_advances l Q 68 [(0, .ref 0), (2, .long v2)] [] q := sx_lp (body := fun s => F7_advances_68b  s.1 s.2) (P := fun s => PF7_advances l Q 68 [(0, .ref 0), (2, .long s.1)] [] s.2) (T := fun t => Q none t.2) st FU (v2, q) t h hk9
  exact h9
def F7_advancesb   (q : SQ) : Option ((SQ) ⊕ (Unit × SQ)) :=
  (F7_byteAt  (gI q 0 4) q).bind (fun z1 => (if z1.1 = (32 : Int32) then sx_let (sI z1.2 0 4 ((gI z1.2 0 4) + (1 : Int32))) (fun q35 => some (.inl (q35))) else sx_let (sI z1.2 0 6 (gI z1.2 0 4)) (fun q2 => (F7_byteAt  (gI q2 0 4) q2).bind (fun z3 => sx_let z3.1 (fun x4 => (if 0 ≤ x4 then (F7_in  x4 (97 : Int32) (122 : Int32) z3.2).bind (fun z5 => (if z5.1 = 0 then (F7_in  x4 (48 : Int32) (57 : Int32) z5.2).bind (fun z6 => (if z6.1 = 0 then sx_let (sI z6.2 0 4 ((gI z6.2 0 4) + (1 : Int32))) (fun q7 => (if x4 = (59 : Int32) then (F7_advances_307  (3 : Int32) q7).map .inr else (F7_advances_307  (4 : Int32) q7).map .inr)) else sx_let (sI z6.2 0 7 (0 : Int32)) (fun q9 => (F7_advances_175  x4 q9).map .inr))) else (F7_advances_68  (0 : Int64) z5.2).map .inr)) else sx_let (sI z3.2 0 5 (0 : Int32)) (fun q34 => some (.inr ((), q34)))))))))
set_option maxHeartbeats 400000 in
theorem F7_advancesb_ok (l : Launch)  {Q : Option Value → SQ → Prop}  (q : SQ) {res : (SQ) ⊕ (Unit × SQ)} (h : F7_advancesb   q = some res) (hk9 : (∀ a36, res = .inl a36 → PF7_advances l Q 0 [(0, .ref 0)] [] a36) ∧ (∀ b37, res = .inr b37 → Q none b37.2)) : PF7_advances l Q 0 [(0, .ref 0)] [] q := by
  unfold F7_advancesb at h
  refine sx_aload_n dX7_advances_0 rfl rfl ?_
  refine sx_aload_n dX7_advances_1 rfl rfl ?_
  refine sx_getI dX7_advances_2 (hs := shM_0) (k9 := 4) (hf := rfl) cb_X7 ⟨by decide, rfl, gw_803⟩ ?_
  obtain ⟨z1, hz1, h⟩ := sx_bd h
  refine sx_callV (o := 0) (As := [.int (gI q 0 4)]) (rest := []) KSM (F7_byteAt_ck l  (gI q 0 4) q hz1) mi_X7_byteAt gw_881 rfl ⟨gw_883, gw_34⟩ shM_0 rfl rfl ⟨Nat.le_of_ble_eq_true rfl, Nat.le_of_ble_eq_true rfl⟩ (Nat.le_of_ble_eq_true rfl) dX7_advances_5 rfl ?_
  refine sx_bipush (v := (32 : Int32)) dX7_advances_8 (by decide) ?_
  refine sx_icmp_ne (tgt := 26) dX7_advances_10 (by decide) (fun c9 => ?_) (fun c9 => ?_)
  · replace h := sx_in h c9
    refine sx_aload_n dX7_advances_26 rfl rfl ?_
    refine sx_aload_n dX7_advances_27 rfl rfl ?_
    refine sx_getI dX7_advances_28 (hs := shM_0) (k9 := 4) (hf := rfl) cb_X7 ⟨by decide, rfl, gw_803⟩ ?_
    obtain ⟨q2, eq2, h⟩ := sx_lt h
    refine sx_putI dX7_advances_31 (hs := shM_0) (k9 := 6) (hf := rfl) cb_X7 ⟨by decide, rfl, gw_805⟩ rfl (by decide) ?_
    refine sx_nmQ eq2 ?_
    refine sx_aload_n dX7_advances_34 rfl rfl ?_
    refine sx_aload_n dX7_advances_35 rfl rfl ?_
    refine sx_getI dX7_advances_36 (hs := shM_0) (k9 := 4) (hf := rfl) cb_X7 ⟨by decide, rfl, gw_803⟩ ?_
    obtain ⟨z3, hz3, h⟩ := sx_bd h
    refine sx_callV (o := 0) (As := [.int (gI q2 0 4)]) (rest := []) KSM (F7_byteAt_ck l  (gI q2 0 4) q2 hz3) mi_X7_byteAt gw_881 rfl ⟨gw_883, gw_34⟩ shM_0 rfl rfl ⟨Nat.le_of_ble_eq_true rfl, Nat.le_of_ble_eq_true rfl⟩ (Nat.le_of_ble_eq_true rfl) dX7_advances_39 rfl ?_
    obtain ⟨x4, ex4, h⟩ := sx_lt h
    refine sx_nmI ex4 ?_
    refine sx_istore_n (ls2 := [(1, .int x4), (0, .ref 0)]) dX7_advances_42 rfl (by decide) rfl ?_
    refine sx_iload_n dX7_advances_43 rfl rfl ?_
    refine sx_if_ge (tgt := 55) dX7_advances_44 (by decide) (fun c9 => ?_) (fun c9 => ?_)
    · replace h := sx_ip h c9
      refine sx_iload_n dX7_advances_55 rfl rfl ?_
      refine sx_bipush (v := (97 : Int32)) dX7_advances_56 (by decide) ?_
      refine sx_bipush (v := (122 : Int32)) dX7_advances_58 (by decide) ?_
      obtain ⟨z5, hz5, h⟩ := sx_bd h
      refine sx_callS (As := [.int x4, .int (97 : Int32), .int (122 : Int32)]) (rest := []) KSM (F7_in_ck l  x4 (97 : Int32) (122 : Int32) z3.2 hz5) mi_X7_in gw_865 rfl gw_866 ⟨Nat.le_of_ble_eq_true rfl, Nat.le_of_ble_eq_true rfl⟩ (Nat.le_of_ble_eq_true rfl) dX7_advances_60 rfl ?_
      refine sx_if_eq (tgt := 159) dX7_advances_63 (by decide) (fun c9 => ?_) (fun c9 => ?_)
      · replace h := sx_ip h c9
        refine sx_iload_n dX7_advances_159 rfl rfl ?_
        refine sx_bipush (v := (48 : Int32)) dX7_advances_160 (by decide) ?_
        refine sx_bipush (v := (57 : Int32)) dX7_advances_162 (by decide) ?_
        obtain ⟨z6, hz6, h⟩ := sx_bd h
        refine sx_callS (As := [.int x4, .int (48 : Int32), .int (57 : Int32)]) (rest := []) KSM (F7_in_ck l  x4 (48 : Int32) (57 : Int32) z5.2 hz6) mi_X7_in gw_865 rfl gw_866 ⟨Nat.le_of_ble_eq_true rfl, Nat.le_of_ble_eq_true rfl⟩ (Nat.le_of_ble_eq_true rfl) dX7_advances_164 rfl ?_
        refine sx_if_eq (tgt := 285) dX7_advances_167 (by decide) (fun c9 => ?_) (fun c9 => ?_)
        · replace h := sx_ip h c9
          refine sx_aload_n dX7_advances_285 rfl rfl ?_
          refine sx_dup dX7_advances_286 rfl ?_
          refine sx_getI dX7_advances_287 (hs := shM_0) (k9 := 4) (hf := rfl) cb_X7 ⟨by decide, rfl, gw_803⟩ ?_
          refine sx_iconst (v := (1 : Int32)) dX7_advances_290 (by decide) ?_
          refine sx_iadd dX7_advances_291 ?_
          obtain ⟨q7, eq7, h⟩ := sx_lt h
          refine sx_putI dX7_advances_292 (hs := shM_0) (k9 := 4) (hf := rfl) cb_X7 ⟨by decide, rfl, gw_803⟩ rfl (by decide) ?_
          refine sx_nmQ eq7 ?_
          refine sx_aload_n dX7_advances_295 rfl rfl ?_
          refine sx_iload_n dX7_advances_296 rfl rfl ?_
          refine sx_bipush (v := (59 : Int32)) dX7_advances_297 (by decide) ?_
          refine sx_icmp_ne (tgt := 306) dX7_advances_299 (by decide) (fun c9 => ?_) (fun c9 => ?_)
          · replace h := sx_in h c9
            refine sx_iconst (v := (4 : Int32)) dX7_advances_306 (by decide) ?_
            obtain ⟨t9, h, hr9⟩ := sx_mp h
            have hk9 := hk9.2 _ hr9
            refine sx_locs [] rfl ?_
            exact F7_advances_307_ok l  (4 : Int32) q7 h hk9
          · replace h := sx_ip h c9
            refine sx_iconst (v := (3 : Int32)) dX7_advances_302 (by decide) ?_
            refine sx_goto (tgt := 307) dX7_advances_303 (by decide) ?_
            obtain ⟨t9, h, hr9⟩ := sx_mp h
            have hk9 := hk9.2 _ hr9
            refine sx_locs [] rfl ?_
            exact F7_advances_307_ok l  (3 : Int32) q7 h hk9
        · replace h := sx_in h c9
          refine sx_aload_n dX7_advances_170 rfl rfl ?_
          refine sx_iconst (v := (0 : Int32)) dX7_advances_171 (by decide) ?_
          obtain ⟨q9, eq9, h⟩ := sx_lt h
          refine sx_putI dX7_advances_172 (hs := shM_0) (k9 := 7) (hf := rfl) cb_X7 ⟨by decide, rfl, gw_806⟩ rfl (by decide) ?_
          refine sx_nmQ eq9 ?_
          obtain ⟨t9, h, hr9⟩ := sx_mp h
          have hk9 := hk9.2 _ hr9
          refine sx_locs [1, 0] rfl ?_
          exact F7_advances_175_ok l  x4 q9 h hk9
      · replace h := sx_in h c9
        refine sx_lconst (v := (0 : Int64)) dX7_advances_66 (by decide) ?_
        refine sx_lstore_n (ls2 := [(2, .long (0 : Int64)), (1, .int x4), (0, .ref 0)]) dX7_advances_67 rfl (by decide) rfl ?_
        obtain ⟨t9, h, hr9⟩ := sx_mp h
        have hk9 := hk9.2 _ hr9
        refine sx_locs [2, 0] rfl ?_
        exact F7_advances_68_ok l  (0 : Int64) z5.2 h hk9
    · replace h := sx_in h c9
      refine sx_aload_n dX7_advances_47 rfl rfl ?_
      refine sx_iconst (v := (0 : Int32)) dX7_advances_48 (by decide) ?_
      obtain ⟨q34, eq34, h⟩ := sx_lt h
      refine sx_putI dX7_advances_49 (hs := shM_0) (k9 := 5) (hf := rfl) cb_X7 ⟨by decide, rfl, gw_804⟩ rfl (by decide) ?_
      refine sx_nmQ eq34 ?_
      refine sx_goto (tgt := 310) dX7_advances_52 (by decide) ?_
      have hk9 := hk9.2 _ (Option.some.inj h).symm
      exact sx_vret dX7_advances_310 rfl hk9
  · replace h := sx_ip h c9
    refine sx_aload_n dX7_advances_13 rfl rfl ?_
    refine sx_dup dX7_advances_14 rfl ?_
    refine sx_getI dX7_advances_15 (hs := shM_0) (k9 := 4) (hf := rfl) cb_X7 ⟨by decide, rfl, gw_803⟩ ?_
    refine sx_iconst (v := (1 : Int32)) dX7_advances_18 (by decide) ?_
    refine sx_iadd dX7_advances_19 ?_
    obtain ⟨q35, eq35, h⟩ := sx_lt h
    refine sx_putI dX7_advances_20 (hs := shM_0) (k9 := 4) (hf := rfl) cb_X7 ⟨by decide, rfl, gw_803⟩ rfl (by decide) ?_
    refine sx_nmQ eq35 ?_
    refine sx_goto (tgt := 0) dX7_advances_23 (by decide) ?_
    exact hk9.1 (q35) (Option.some.inj h).symm
def F7_advances   (q : SQ) : Option (Unit × SQ) := sx_loop (fun s38 => F7_advancesb   s38) FU (q)
set_option maxHeartbeats 400000 in
theorem F7_advances_ok (l : Launch)  {Q : Option Value → SQ → Prop}  (q : SQ) {t : Unit × SQ} (h : F7_advances   q = some t) (hk9 : Q none t.2) : PF7_advances l Q 0 [(0, .ref 0)] [] q := by
  unfold F7_advances at h
  have st : ∀ (s : SQ) (res : (SQ) ⊕ (Unit × SQ)), F7_advancesb   s = some res → (∀ s2, res = .inl s2 → PF7_advances l Q 0 [(0, .ref 0)] [] s2) → (∀ t2, res = .inr t2 → Q none t2.2) → PF7_advances l Q 0 [(0, .ref 0)] [] s :=
    fun s res hb hi ho => F7_advancesb_ok l   s hb ⟨hi, ho⟩
  have h9 : PF7_advances l Q 0 [(0, .ref 0)] [] q := sx_lp (body := fun s => F7_advancesb   s) (P := fun s => PF7_advances l Q 0 [(0, .ref 0)] [] s) (T := fun t => Q none t.2) st FU (q) t h hk9
  exact h9
theorem F7_advances_ck (l : Launch)   (q : SQ) {r : Unit × SQ} (h : F7_advances   q = some r) : CK shM vwCl KM tfM l yX7_advances cX7_advances 4 (none) 3 68 [.ref 0] q none r.2 :=
  CK.of mi_X7_advances (Nat.le_of_ble_eq_true rfl) (F7_advances_ok l   q h ⟨rfl, rfl⟩)
theorem mi_X7_isWell : sx_MI yX7_isWell cX7_isWell 1 ((some .boolean)) 0 := ⟨by decide, ⟨by decide, by decide, by decide +kernel⟩, gw_898, gw_68⟩
abbrev PF7_isWell (l : Launch) (Q : Option Value → SQ → Prop) : Nat → List (Nat × Value) → List Value → SQ → Prop := XX shM vwCl KM tfM l RX7 cX7_isWell 1 ((some .boolean)) { frames := 0, cells := 0, slots := 0, locals := 0 } Q
def F7_isWell   (q : SQ) : Option (Int32 × SQ) :=
  (if 0 ≤ gI q 0 8 then some ((0 : Int32), q) else some ((1 : Int32), q))
set_option maxHeartbeats 400000 in
theorem F7_isWell_ok (l : Launch)  {Q : Option Value → SQ → Prop}  (q : SQ) {res : Int32 × SQ} (h : F7_isWell   q = some res) (hk9 : Q (some (.int res.1)) res.2) : PF7_isWell l Q 0 [(0, .ref 0)] [] q := by
  unfold F7_isWell at h
  refine sx_aload_n dX7_isWell_0 rfl rfl ?_
  refine sx_getI dX7_isWell_1 (hs := shM_0) (k9 := 8) (hf := rfl) cb_X7 ⟨by decide, rfl, gw_807⟩ ?_
  refine sx_if_ge (tgt := 11) dX7_isWell_4 (by decide) (fun c9 => ?_) (fun c9 => ?_)
  · replace h := sx_ip h c9
    refine sx_iconst (v := (0 : Int32)) dX7_isWell_11 (by decide) ?_
    obtain rfl := Option.some.inj h
    exact sx_zret dX7_isWell_12 rfl (by decide) hk9
  · replace h := sx_in h c9
    refine sx_iconst (v := (1 : Int32)) dX7_isWell_7 (by decide) ?_
    refine sx_goto (tgt := 12) dX7_isWell_8 (by decide) ?_
    obtain rfl := Option.some.inj h
    exact sx_zret dX7_isWell_12 rfl (by decide) hk9
theorem F7_isWell_ck (l : Launch)   (q : SQ) {r : Int32 × SQ} (h : F7_isWell   q = some r) : CK shM vwCl KM tfM l yX7_isWell cX7_isWell 1 ((some .boolean)) 0 0 [.ref 0] q (some (.int r.1)) r.2 :=
  CK.of mi_X7_isWell (Nat.le_of_ble_eq_true rfl) (F7_isWell_ok l   q h ⟨rfl, rfl⟩)
theorem mi_X7_takes : sx_MI yX7_takes cX7_takes 3 ((some .int)) 1 := ⟨by decide, ⟨by decide, by decide, by decide +kernel⟩, gw_902, gw_68⟩
abbrev PF7_takes (l : Launch) (Q : Option Value → SQ → Prop) : Nat → List (Nat × Value) → List Value → SQ → Prop := XX shM vwCl KM tfM l RX7 cX7_takes 3 ((some .int)) { frames := 4, cells := 0, slots := 0, locals := 91 } Q
def F7_takes  (v1 : Int32) (q : SQ) : Option (Int32 × SQ) :=
  (F7_isWell   q).bind (fun z1 => (if z1.1 = 0 then some ((0 : Int32), z1.2) else (if v1 = 0 then sx_let (sI z1.2 0 8 (gI z1.2 0 6)) (fun q4 => some ((0 : Int32), q4)) else sx_let (gI z1.2 0 7) (fun x2 => (F7_advances   z1.2).bind (fun z3 => some (x2, z3.2))))))
set_option maxHeartbeats 400000 in
theorem F7_takes_ok (l : Launch)  {Q : Option Value → SQ → Prop} (v1 : Int32) (q : SQ) {res : Int32 × SQ} (h : F7_takes  v1 q = some res) (hk9 : Q (some (.int res.1)) res.2) : PF7_takes l Q 0 [(0, .ref 0), (1, .int v1)] [] q := by
  unfold F7_takes at h
  refine sx_aload_n dX7_takes_0 rfl rfl ?_
  obtain ⟨z1, hz1, h⟩ := sx_bd h
  refine sx_callV (o := 0) (As := []) (rest := []) KSM (F7_isWell_ck l   q hz1) mi_X7_isWell gw_895 rfl ⟨gw_897, gw_35⟩ shM_0 rfl rfl ⟨Nat.le_of_ble_eq_true rfl, Nat.le_of_ble_eq_true rfl⟩ (Nat.le_of_ble_eq_true rfl) dX7_takes_1 rfl ?_
  refine sx_if_ne (tgt := 9) dX7_takes_4 (by decide) (fun c9 => ?_) (fun c9 => ?_)
  · replace h := sx_in h c9
    refine sx_iload_n dX7_takes_9 rfl rfl ?_
    refine sx_if_ne (tgt := 23) dX7_takes_10 (by decide) (fun c9 => ?_) (fun c9 => ?_)
    · replace h := sx_in h c9
      refine sx_aload_n dX7_takes_23 rfl rfl ?_
      refine sx_getI dX7_takes_24 (hs := shM_0) (k9 := 7) (hf := rfl) cb_X7 ⟨by decide, rfl, gw_806⟩ ?_
      obtain ⟨x2, ex2, h⟩ := sx_lt h
      refine sx_nmI ex2 ?_
      refine sx_istore_n (ls2 := [(2, .int x2), (0, .ref 0), (1, .int v1)]) dX7_takes_27 rfl (by decide) rfl ?_
      refine sx_aload_n dX7_takes_28 rfl rfl ?_
      obtain ⟨z3, hz3, h⟩ := sx_bd h
      refine sx_callV (o := 0) (As := []) (rest := []) KSM (F7_advances_ck l   z1.2 hz3) mi_X7_advances gw_877 rfl ⟨gw_879, gw_33⟩ shM_0 rfl rfl ⟨Nat.le_of_ble_eq_true rfl, Nat.le_of_ble_eq_true rfl⟩ (Nat.le_of_ble_eq_true rfl) dX7_takes_29 rfl ?_
      refine sx_iload_n dX7_takes_32 rfl rfl ?_
      obtain rfl := Option.some.inj h
      exact sx_iret dX7_takes_33 rfl hk9
    · replace h := sx_ip h c9
      refine sx_aload_n dX7_takes_13 rfl rfl ?_
      refine sx_aload_n dX7_takes_14 rfl rfl ?_
      refine sx_getI dX7_takes_15 (hs := shM_0) (k9 := 6) (hf := rfl) cb_X7 ⟨by decide, rfl, gw_805⟩ ?_
      obtain ⟨q4, eq4, h⟩ := sx_lt h
      refine sx_putI dX7_takes_18 (hs := shM_0) (k9 := 8) (hf := rfl) cb_X7 ⟨by decide, rfl, gw_807⟩ rfl (by decide) ?_
      refine sx_nmQ eq4 ?_
      refine sx_iconst (v := (0 : Int32)) dX7_takes_21 (by decide) ?_
      obtain rfl := Option.some.inj h
      exact sx_iret dX7_takes_22 rfl hk9
  · replace h := sx_ip h c9
    refine sx_iconst (v := (0 : Int32)) dX7_takes_7 (by decide) ?_
    obtain rfl := Option.some.inj h
    exact sx_iret dX7_takes_8 rfl hk9
theorem F7_takes_ck (l : Launch)  (v1 : Int32) (q : SQ) {r : Int32 × SQ} (h : F7_takes  v1 q = some r) : CK shM vwCl KM tfM l yX7_takes cX7_takes 3 ((some .int)) 4 91 [.ref 0, .int v1] q (some (.int r.1)) r.2 :=
  CK.of mi_X7_takes (Nat.le_of_ble_eq_true rfl) (F7_takes_ok l  v1 q h ⟨rfl, rfl⟩)
theorem mi_X7_number : sx_MI yX7_number cX7_number 3 ((some .int)) 2 := ⟨by decide, ⟨by decide, by decide, by decide +kernel⟩, gw_910, gw_68⟩
abbrev PF7_number (l : Launch) (Q : Option Value → SQ → Prop) : Nat → List (Nat × Value) → List Value → SQ → Prop := XX shM vwCl KM tfM l RX7 cX7_number 3 ((some .int)) { frames := 5, cells := 0, slots := 0, locals := 113 } Q
def F7_number_26  (s0 : Int32) (q : SQ) : Option (Int32 × SQ) :=
  (F7_takes  s0 q).bind (fun z1 => some (z1.1, z1.2))
set_option maxHeartbeats 400000 in
theorem F7_number_26_ok (l : Launch)  {Q : Option Value → SQ → Prop} (s0 : Int32) (q : SQ) {res : Int32 × SQ} (h : F7_number_26  s0 q = some res) (hk9 : Q (some (.int res.1)) res.2) : PF7_number l Q 26 [] [.int s0, .ref 0] q := by
  unfold F7_number_26 at h
  obtain ⟨z1, hz1, h⟩ := sx_bd h
  refine sx_callV (o := 0) (As := [.int s0]) (rest := []) KSM (F7_takes_ck l  s0 q hz1) mi_X7_takes gw_899 rfl ⟨gw_901, gw_36⟩ shM_0 rfl rfl ⟨Nat.le_of_ble_eq_true rfl, Nat.le_of_ble_eq_true rfl⟩ (Nat.le_of_ble_eq_true rfl) dX7_number_26 rfl ?_
  obtain rfl := Option.some.inj h
  exact sx_iret dX7_number_29 rfl hk9
def F7_number_25   (q : SQ) : Option (Int32 × SQ) :=
  F7_number_26  (0 : Int32) q
set_option maxHeartbeats 400000 in
theorem F7_number_25_ok (l : Launch)  {Q : Option Value → SQ → Prop}  (q : SQ) {res : Int32 × SQ} (h : F7_number_25   q = some res) (hk9 : Q (some (.int res.1)) res.2) : PF7_number l Q 25 [] [.ref 0] q := by
  unfold F7_number_25 at h
  refine sx_iconst (v := (0 : Int32)) dX7_number_25 (by decide) ?_
  exact F7_number_26_ok l  (0 : Int32) q h hk9
def F7_number  (v1 : Int32) (v2 : Int32) (q : SQ) : Option (Int32 × SQ) :=
  (if gI q 0 5 = (2 : Int32) then (F7_in  (gI q 0 7) v1 v2 q).bind (fun z2 => (if z2.1 = 0 then F7_number_25   z2.2 else F7_number_26  (1 : Int32) z2.2)) else F7_number_25   q)
set_option maxHeartbeats 400000 in
theorem F7_number_ok (l : Launch)  {Q : Option Value → SQ → Prop} (v1 : Int32) (v2 : Int32) (q : SQ) {res : Int32 × SQ} (h : F7_number  v1 v2 q = some res) (hk9 : Q (some (.int res.1)) res.2) : PF7_number l Q 0 [(0, .ref 0), (1, .int v1), (2, .int v2)] [] q := by
  unfold F7_number at h
  refine sx_aload_n dX7_number_0 rfl rfl ?_
  refine sx_aload_n dX7_number_1 rfl rfl ?_
  refine sx_getI dX7_number_2 (hs := shM_0) (k9 := 5) (hf := rfl) cb_X7 ⟨by decide, rfl, gw_804⟩ ?_
  refine sx_iconst (v := (2 : Int32)) dX7_number_5 (by decide) ?_
  refine sx_icmp_ne (tgt := 25) dX7_number_6 (by decide) (fun c9 => ?_) (fun c9 => ?_)
  · replace h := sx_in h c9
    refine sx_locs [] rfl ?_
    exact F7_number_25_ok l   q h hk9
  · replace h := sx_ip h c9
    refine sx_aload_n dX7_number_9 rfl rfl ?_
    refine sx_getI dX7_number_10 (hs := shM_0) (k9 := 7) (hf := rfl) cb_X7 ⟨by decide, rfl, gw_806⟩ ?_
    refine sx_iload_n dX7_number_13 rfl rfl ?_
    refine sx_iload_n dX7_number_14 rfl rfl ?_
    obtain ⟨z2, hz2, h⟩ := sx_bd h
    refine sx_callS (As := [.int (gI q 0 7), .int v1, .int v2]) (rest := [.ref 0]) KSM (F7_in_ck l  (gI q 0 7) v1 v2 q hz2) mi_X7_in gw_865 rfl gw_866 ⟨Nat.le_of_ble_eq_true rfl, Nat.le_of_ble_eq_true rfl⟩ (Nat.le_of_ble_eq_true rfl) dX7_number_15 rfl ?_
    refine sx_if_eq (tgt := 25) dX7_number_18 (by decide) (fun c9 => ?_) (fun c9 => ?_)
    · replace h := sx_ip h c9
      refine sx_locs [] rfl ?_
      exact F7_number_25_ok l   z2.2 h hk9
    · replace h := sx_in h c9
      refine sx_iconst (v := (1 : Int32)) dX7_number_21 (by decide) ?_
      refine sx_goto (tgt := 26) dX7_number_22 (by decide) ?_
      refine sx_locs [] rfl ?_
      exact F7_number_26_ok l  (1 : Int32) z2.2 h hk9
theorem F7_number_ck (l : Launch)  (v1 : Int32) (v2 : Int32) (q : SQ) {r : Int32 × SQ} (h : F7_number  v1 v2 q = some r) : CK shM vwCl KM tfM l yX7_number cX7_number 3 ((some .int)) 5 113 [.ref 0, .int v1, .int v2] q (some (.int r.1)) r.2 :=
  CK.of mi_X7_number (Nat.le_of_ble_eq_true rfl) (F7_number_ok l  v1 v2 q h ⟨rfl, rfl⟩)
theorem mi_X7_takesWord : sx_MI yX7_takesWord cX7_takesWord 3 ((some .boolean)) 1 := ⟨by decide, ⟨by decide, by decide, by decide +kernel⟩, gw_914, gw_68⟩
abbrev PF7_takesWord (l : Launch) (Q : Option Value → SQ → Prop) : Nat → List (Nat × Value) → List Value → SQ → Prop := XX shM vwCl KM tfM l RX7 cX7_takesWord 3 ((some .boolean)) { frames := 4, cells := 0, slots := 0, locals := 91 } Q
def F7_takesWord_37  (v2 : Int32) (q : SQ) : Option (Int32 × SQ) :=
  (if sx_bt v2 = true then some (v2, q) else none)
set_option maxHeartbeats 400000 in
theorem F7_takesWord_37_ok (l : Launch)  {Q : Option Value → SQ → Prop} (v2 : Int32) (q : SQ) {res : Int32 × SQ} (h : F7_takesWord_37  v2 q = some res) (hk9 : Q (some (.int res.1)) res.2) : PF7_takesWord l Q 37 [(2, .int v2)] [] q := by
  unfold F7_takesWord_37 at h
  refine sx_iload_n dX7_takesWord_37 rfl rfl ?_
  obtain ⟨g9, h⟩ := sx_gd h
  obtain rfl := Option.some.inj h
  exact sx_zret dX7_takesWord_38 rfl (sx_bit g9) hk9
def F7_takesWord_28  (s0 : Int32) (q : SQ) : Option (Int32 × SQ) :=
  (if s0 = 0 then F7_takesWord_37  s0 q else (F7_advances   q).bind (fun z2 => F7_takesWord_37  s0 z2.2))
set_option maxHeartbeats 400000 in
theorem F7_takesWord_28_ok (l : Launch)  {Q : Option Value → SQ → Prop} (s0 : Int32) (q : SQ) {res : Int32 × SQ} (h : F7_takesWord_28  s0 q = some res) (hk9 : Q (some (.int res.1)) res.2) : PF7_takesWord l Q 28 [(0, .ref 0)] [.int s0] q := by
  unfold F7_takesWord_28 at h
  refine sx_istore_n (ls2 := [(2, .int s0), (0, .ref 0)]) dX7_takesWord_28 rfl (by decide) rfl ?_
  refine sx_iload_n dX7_takesWord_29 rfl rfl ?_
  refine sx_if_eq (tgt := 37) dX7_takesWord_30 (by decide) (fun c9 => ?_) (fun c9 => ?_)
  · replace h := sx_ip h c9
    refine sx_locs [0] rfl ?_
    exact F7_takesWord_37_ok l  s0 q h hk9
  · replace h := sx_in h c9
    refine sx_aload_n dX7_takesWord_33 rfl rfl ?_
    obtain ⟨z2, hz2, h⟩ := sx_bd h
    refine sx_callV (o := 0) (As := []) (rest := []) KSM (F7_advances_ck l   q hz2) mi_X7_advances gw_877 rfl ⟨gw_879, gw_33⟩ shM_0 rfl rfl ⟨Nat.le_of_ble_eq_true rfl, Nat.le_of_ble_eq_true rfl⟩ (Nat.le_of_ble_eq_true rfl) dX7_takesWord_34 rfl ?_
    refine sx_locs [0] rfl ?_
    exact F7_takesWord_37_ok l  s0 z2.2 h hk9
def F7_takesWord_27   (q : SQ) : Option (Int32 × SQ) :=
  F7_takesWord_28  (0 : Int32) q
set_option maxHeartbeats 400000 in
theorem F7_takesWord_27_ok (l : Launch)  {Q : Option Value → SQ → Prop}  (q : SQ) {res : Int32 × SQ} (h : F7_takesWord_27   q = some res) (hk9 : Q (some (.int res.1)) res.2) : PF7_takesWord l Q 27 [(0, .ref 0)] [] q := by
  unfold F7_takesWord_27 at h
  refine sx_iconst (v := (0 : Int32)) dX7_takesWord_27 (by decide) ?_
  exact F7_takesWord_28_ok l  (0 : Int32) q h hk9
def F7_takesWord  (v1 : Int32) (q : SQ) : Option (Int32 × SQ) :=
  (F7_isWell   q).bind (fun z1 => (if z1.1 = 0 then F7_takesWord_27   z1.2 else (if gI z1.2 0 5 = (1 : Int32) then (if gI z1.2 0 7 = v1 then F7_takesWord_28  (1 : Int32) z1.2 else F7_takesWord_27   z1.2) else F7_takesWord_27   z1.2)))
set_option maxHeartbeats 400000 in
theorem F7_takesWord_ok (l : Launch)  {Q : Option Value → SQ → Prop} (v1 : Int32) (q : SQ) {res : Int32 × SQ} (h : F7_takesWord  v1 q = some res) (hk9 : Q (some (.int res.1)) res.2) : PF7_takesWord l Q 0 [(0, .ref 0), (1, .int v1)] [] q := by
  unfold F7_takesWord at h
  refine sx_aload_n dX7_takesWord_0 rfl rfl ?_
  obtain ⟨z1, hz1, h⟩ := sx_bd h
  refine sx_callV (o := 0) (As := []) (rest := []) KSM (F7_isWell_ck l   q hz1) mi_X7_isWell gw_895 rfl ⟨gw_897, gw_35⟩ shM_0 rfl rfl ⟨Nat.le_of_ble_eq_true rfl, Nat.le_of_ble_eq_true rfl⟩ (Nat.le_of_ble_eq_true rfl) dX7_takesWord_1 rfl ?_
  refine sx_if_eq (tgt := 27) dX7_takesWord_4 (by decide) (fun c9 => ?_) (fun c9 => ?_)
  · replace h := sx_ip h c9
    refine sx_locs [0] rfl ?_
    exact F7_takesWord_27_ok l   z1.2 h hk9
  · replace h := sx_in h c9
    refine sx_aload_n dX7_takesWord_7 rfl rfl ?_
    refine sx_getI dX7_takesWord_8 (hs := shM_0) (k9 := 5) (hf := rfl) cb_X7 ⟨by decide, rfl, gw_804⟩ ?_
    refine sx_iconst (v := (1 : Int32)) dX7_takesWord_11 (by decide) ?_
    refine sx_icmp_ne (tgt := 27) dX7_takesWord_12 (by decide) (fun c9 => ?_) (fun c9 => ?_)
    · replace h := sx_in h c9
      refine sx_locs [0] rfl ?_
      exact F7_takesWord_27_ok l   z1.2 h hk9
    · replace h := sx_ip h c9
      refine sx_aload_n dX7_takesWord_15 rfl rfl ?_
      refine sx_getI dX7_takesWord_16 (hs := shM_0) (k9 := 7) (hf := rfl) cb_X7 ⟨by decide, rfl, gw_806⟩ ?_
      refine sx_iload_n dX7_takesWord_19 rfl rfl ?_
      refine sx_icmp_ne (tgt := 27) dX7_takesWord_20 (by decide) (fun c9 => ?_) (fun c9 => ?_)
      · replace h := sx_in h c9
        refine sx_locs [0] rfl ?_
        exact F7_takesWord_27_ok l   z1.2 h hk9
      · replace h := sx_ip h c9
        refine sx_iconst (v := (1 : Int32)) dX7_takesWord_23 (by decide) ?_
        refine sx_goto (tgt := 28) dX7_takesWord_24 (by decide) ?_
        refine sx_locs [0] rfl ?_
        exact F7_takesWord_28_ok l  (1 : Int32) z1.2 h hk9
theorem F7_takesWord_ck (l : Launch)  (v1 : Int32) (q : SQ) {r : Int32 × SQ} (h : F7_takesWord  v1 q = some r) : CK shM vwCl KM tfM l yX7_takesWord cX7_takesWord 3 ((some .boolean)) 4 91 [.ref 0, .int v1] q (some (.int r.1)) r.2 :=
  CK.of mi_X7_takesWord (Nat.le_of_ble_eq_true rfl) (F7_takesWord_ok l  v1 q h ⟨rfl, rfl⟩)
theorem mi_X7_drafts : sx_MI yX7_drafts cX7_drafts 2 (none) 0 := ⟨by decide, ⟨by decide, by decide, by decide +kernel⟩, gw_790, gw_68⟩
abbrev PF7_drafts (l : Launch) (Q : Option Value → SQ → Prop) : Nat → List (Nat × Value) → List Value → SQ → Prop := XX shM vwCl KM tfM l RX7 cX7_drafts 2 (none) { frames := 0, cells := 0, slots := 0, locals := 0 } Q
def F7_drafts_27  (v1 : Int32) (s0 : Int32) (s1 : Int32) (q : SQ) : Option ((Int32 × SQ) ⊕ (Unit × SQ)) :=
  (if sx_ix s1 84 = true then sx_let (sI q 2 s1.toNatClampNeg s0) (fun q1 => sx_let (v1 + (1 : Int32)) (fun x2 => some (.inl (x2, q1)))) else none)
set_option maxHeartbeats 400000 in
theorem F7_drafts_27_ok (l : Launch)  {Q : Option Value → SQ → Prop} (v1 : Int32) (s0 : Int32) (s1 : Int32) (q : SQ) {res : (Int32 × SQ) ⊕ (Unit × SQ)} (h : F7_drafts_27  v1 s0 s1 q = some res) (hk9 : (∀ a3, res = .inl a3 → PF7_drafts l Q 2 [(0, .ref 0), (1, .int a3.1)] [] a3.2) ∧ (∀ b4, res = .inr b4 → Q none b4.2)) : PF7_drafts l Q 27 [(0, .ref 0), (1, .int v1)] [.int s0, .int s1, .ref 2] q := by
  unfold F7_drafts_27 at h
  obtain ⟨g9, h⟩ := sx_gd h
  obtain ⟨q1, eq1, h⟩ := sx_lt h
  refine sx_iast dX7_drafts_27 shM_2 (fun _ _ => rfl) (sx_ix_in g9) ?_
  refine sx_nmQ eq1 ?_
  obtain ⟨x2, ex2, h⟩ := sx_lt h
  refine sx_iinc (k9 := 1) (v := x2) (ls2 := [(1, .int x2), (0, .ref 0)]) dX7_drafts_28 rfl (by rw [ex2, sx_ofI1]) (by decide) rfl ?_
  refine sx_goto (tgt := 2) dX7_drafts_31 (by decide) ?_
  refine sx_locs [1, 0] rfl ?_
  exact hk9.1 (x2, q1) (Option.some.inj h).symm
def F7_drafts_2b  (v1 : Int32) (q : SQ) : Option ((Int32 × SQ) ⊕ (Unit × SQ)) :=
  (if (42 : Int32) ≤ v1 then some (.inr ((), q)) else (if v1 = (38 : Int32) then F7_drafts_27  v1 (1 : Int32) ((42 : Int32) + v1) q else F7_drafts_27  v1 (0 : Int32) ((42 : Int32) + v1) q))
set_option maxHeartbeats 400000 in
theorem F7_drafts_2b_ok (l : Launch)  {Q : Option Value → SQ → Prop} (v1 : Int32) (q : SQ) {res : (Int32 × SQ) ⊕ (Unit × SQ)} (h : F7_drafts_2b  v1 q = some res) (hk9 : (∀ a5, res = .inl a5 → PF7_drafts l Q 2 [(0, .ref 0), (1, .int a5.1)] [] a5.2) ∧ (∀ b6, res = .inr b6 → Q none b6.2)) : PF7_drafts l Q 2 [(0, .ref 0), (1, .int v1)] [] q := by
  unfold F7_drafts_2b at h
  refine sx_iload_n dX7_drafts_2 rfl rfl ?_
  refine sx_bipush (v := (42 : Int32)) dX7_drafts_3 (by decide) ?_
  refine sx_icmp_ge (tgt := 34) dX7_drafts_5 (by decide) (fun c9 => ?_) (fun c9 => ?_)
  · replace h := sx_ip h c9
    have hk9 := hk9.2 _ (Option.some.inj h).symm
    exact sx_vret dX7_drafts_34 rfl hk9
  · replace h := sx_in h c9
    refine sx_aload_n dX7_drafts_8 rfl rfl ?_
    refine sx_getR dX7_drafts_9 (hs := shM_0) (k9 := 9) (hf := rfl) cb_X7 ⟨by decide, rfl, gw_808⟩ ?_
    refine sx_bipush (v := (42 : Int32)) dX7_drafts_12 (by decide) ?_
    refine sx_iload_n dX7_drafts_14 rfl rfl ?_
    refine sx_iadd dX7_drafts_15 ?_
    refine sx_iload_n dX7_drafts_16 rfl rfl ?_
    refine sx_bipush (v := (38 : Int32)) dX7_drafts_17 (by decide) ?_
    refine sx_icmp_ne (tgt := 26) dX7_drafts_19 (by decide) (fun c9 => ?_) (fun c9 => ?_)
    · replace h := sx_in h c9
      refine sx_iconst (v := (0 : Int32)) dX7_drafts_26 (by decide) ?_
      exact F7_drafts_27_ok l  v1 (0 : Int32) ((42 : Int32) + v1) q h hk9
    · replace h := sx_ip h c9
      refine sx_iconst (v := (1 : Int32)) dX7_drafts_22 (by decide) ?_
      refine sx_goto (tgt := 27) dX7_drafts_23 (by decide) ?_
      exact F7_drafts_27_ok l  v1 (1 : Int32) ((42 : Int32) + v1) q h hk9
def F7_drafts_2  (v1 : Int32) (q : SQ) : Option (Unit × SQ) := sx_loop (fun s7 => F7_drafts_2b  s7.1 s7.2) FU (v1, q)
set_option maxHeartbeats 400000 in
theorem F7_drafts_2_ok (l : Launch)  {Q : Option Value → SQ → Prop} (v1 : Int32) (q : SQ) {t : Unit × SQ} (h : F7_drafts_2  v1 q = some t) (hk9 : Q none t.2) : PF7_drafts l Q 2 [(0, .ref 0), (1, .int v1)] [] q := by
  unfold F7_drafts_2 at h
  have st : ∀ (s : Int32 × SQ) (res : (Int32 × SQ) ⊕ (Unit × SQ)), F7_drafts_2b  s.1 s.2 = some res → (∀ s2, res = .inl s2 → PF7_drafts l Q 2 [(0, .ref 0), (1, .int s2.1)] [] s2.2) → (∀ t2, res = .inr t2 → Q none t2.2) → PF7_drafts l Q 2 [(0, .ref 0), (1, .int s.1)] [] s.2 :=
    fun s res hb hi ho => F7_drafts_2b_ok l  s.1 s.2 hb ⟨hi, ho⟩
  have h9 : PF7_drafts l Q 2 [(0, .ref 0), (1, .int v1)] [] q := sx_lp (body := fun s => F7_drafts_2b  s.1 s.2) (P := fun s => PF7_drafts l Q 2 [(0, .ref 0), (1, .int s.1)] [] s.2) (T := fun t => Q none t.2) st FU (v1, q) t h hk9
  exact h9
def F7_drafts   (q : SQ) : Option (Unit × SQ) :=
  F7_drafts_2  (0 : Int32) q
set_option maxHeartbeats 400000 in
theorem F7_drafts_ok (l : Launch)  {Q : Option Value → SQ → Prop}  (q : SQ) {res : Unit × SQ} (h : F7_drafts   q = some res) (hk9 : Q none res.2) : PF7_drafts l Q 0 [(0, .ref 0)] [] q := by
  unfold F7_drafts at h
  refine sx_iconst (v := (0 : Int32)) dX7_drafts_0 (by decide) ?_
  refine sx_istore_n (ls2 := [(1, .int (0 : Int32)), (0, .ref 0)]) dX7_drafts_1 rfl (by decide) rfl ?_
  refine sx_locs [1, 0] rfl ?_
  exact F7_drafts_2_ok l  (0 : Int32) q h hk9
theorem F7_drafts_ck (l : Launch)   (q : SQ) {r : Unit × SQ} (h : F7_drafts   q = some r) : CK shM vwCl KM tfM l yX7_drafts cX7_drafts 2 (none) 0 0 [.ref 0] q none r.2 :=
  CK.of mi_X7_drafts (Nat.le_of_ble_eq_true rfl) (F7_drafts_ok l   q h ⟨rfl, rfl⟩)
theorem mi_X7_readsItem : sx_MI yX7_readsItem cX7_readsItem 4 (none) 1 := ⟨by decide, ⟨by decide, by decide, by decide +kernel⟩, gw_906, gw_68⟩
abbrev PF7_readsItem (l : Launch) (Q : Option Value → SQ → Prop) : Nat → List (Nat × Value) → List Value → SQ → Prop := XX shM vwCl KM tfM l RX7 cX7_readsItem 4 (none) { frames := 6, cells := 0, slots := 0, locals := 135 } Q
def F7_readsItem_227  (s0 : Int32) (s1 : Int32) (q : SQ) : Option (Unit × SQ) :=
  (if sx_ix s1 84 = true then sx_let (sI q 2 s1.toNatClampNeg s0) (fun q14 => some ((), q14)) else none)
set_option maxHeartbeats 400000 in
theorem F7_readsItem_227_ok (l : Launch)  {Q : Option Value → SQ → Prop} (s0 : Int32) (s1 : Int32) (q : SQ) {res : Unit × SQ} (h : F7_readsItem_227  s0 s1 q = some res) (hk9 : Q none res.2) : PF7_readsItem l Q 227 [] [.int s0, .int s1, .ref 2] q := by
  unfold F7_readsItem_227 at h
  obtain ⟨g9, h⟩ := sx_gd h
  obtain ⟨q14, eq14, h⟩ := sx_lt h
  refine sx_iast dX7_readsItem_227 shM_2 (fun _ _ => rfl) (sx_ix_in g9) ?_
  refine sx_nmQ eq14 ?_
  refine sx_goto (tgt := 275) dX7_readsItem_228 (by decide) ?_
  obtain rfl := Option.some.inj h
  exact sx_vret dX7_readsItem_275 rfl hk9
def F7_readsItem_201  (s0 : Int32) (s1 : Int32) (q : SQ) : Option (Unit × SQ) :=
  (if sx_ix s1 84 = true then sx_let (sI q 2 s1.toNatClampNeg s0) (fun q12 => (F7_takesWord  (4 : Int32) q12).bind (fun z13 => (if z13.1 = 0 then F7_readsItem_227  (0 : Int32) (81 : Int32) z13.2 else (F7_number  (0 : Int32) (20 : Int32) z13.2).bind (fun z15 => F7_readsItem_227  z15.1 (81 : Int32) z15.2)))) else none)
set_option maxHeartbeats 400000 in
theorem F7_readsItem_201_ok (l : Launch)  {Q : Option Value → SQ → Prop} (s0 : Int32) (s1 : Int32) (q : SQ) {res : Unit × SQ} (h : F7_readsItem_201  s0 s1 q = some res) (hk9 : Q none res.2) : PF7_readsItem l Q 201 [(0, .ref 0)] [.int s0, .int s1, .ref 2] q := by
  unfold F7_readsItem_201 at h
  obtain ⟨g9, h⟩ := sx_gd h
  obtain ⟨q12, eq12, h⟩ := sx_lt h
  refine sx_iast dX7_readsItem_201 shM_2 (fun _ _ => rfl) (sx_ix_in g9) ?_
  refine sx_nmQ eq12 ?_
  refine sx_aload_n dX7_readsItem_202 rfl rfl ?_
  refine sx_getR dX7_readsItem_203 (hs := shM_0) (k9 := 9) (hf := rfl) cb_X7 ⟨by decide, rfl, gw_808⟩ ?_
  refine sx_bipush (v := (81 : Int32)) dX7_readsItem_206 (by decide) ?_
  refine sx_aload_n dX7_readsItem_208 rfl rfl ?_
  refine sx_iconst (v := (4 : Int32)) dX7_readsItem_209 (by decide) ?_
  obtain ⟨z13, hz13, h⟩ := sx_bd h
  refine sx_callV (o := 0) (As := [.int (4 : Int32)]) (rest := [.int (81 : Int32), .ref 2]) KSM (F7_takesWord_ck l  (4 : Int32) q12 hz13) mi_X7_takesWord gw_911 rfl ⟨gw_913, gw_39⟩ shM_0 rfl rfl ⟨Nat.le_of_ble_eq_true rfl, Nat.le_of_ble_eq_true rfl⟩ (Nat.le_of_ble_eq_true rfl) dX7_readsItem_210 rfl ?_
  refine sx_if_eq (tgt := 226) dX7_readsItem_213 (by decide) (fun c9 => ?_) (fun c9 => ?_)
  · replace h := sx_ip h c9
    refine sx_iconst (v := (0 : Int32)) dX7_readsItem_226 (by decide) ?_
    refine sx_locs [] rfl ?_
    exact F7_readsItem_227_ok l  (0 : Int32) (81 : Int32) z13.2 h hk9
  · replace h := sx_in h c9
    refine sx_aload_n dX7_readsItem_216 rfl rfl ?_
    refine sx_iconst (v := (0 : Int32)) dX7_readsItem_217 (by decide) ?_
    refine sx_bipush (v := (20 : Int32)) dX7_readsItem_218 (by decide) ?_
    obtain ⟨z15, hz15, h⟩ := sx_bd h
    refine sx_callV (o := 0) (As := [.int (0 : Int32), .int (20 : Int32)]) (rest := [.int (81 : Int32), .ref 2]) KSM (F7_number_ck l  (0 : Int32) (20 : Int32) z13.2 hz15) mi_X7_number gw_907 rfl ⟨gw_909, gw_38⟩ shM_0 rfl rfl ⟨Nat.le_of_ble_eq_true rfl, Nat.le_of_ble_eq_true rfl⟩ (Nat.le_of_ble_eq_true rfl) dX7_readsItem_220 rfl ?_
    refine sx_goto (tgt := 227) dX7_readsItem_223 (by decide) ?_
    refine sx_locs [] rfl ?_
    exact F7_readsItem_227_ok l  z15.1 (81 : Int32) z15.2 h hk9
def F7_readsItem  (v1 : Int32) (q : SQ) : Option (Unit × SQ) :=
  (if v1 = 0 then sx_let ((42 : Int32) + ((3 : Int32) * (gI q 2 82))) (fun x23 => (F7_number  (0 : Int32) (100 : Int32) q).bind (fun z24 => (if sx_ix x23 84 = true then sx_let (sI z24.2 2 x23.toNatClampNeg z24.1) (fun q25 => (F7_number  (1 : Int32) (9 : Int32) q25).bind (fun z26 => (if sx_ix (x23 + (1 : Int32)) 84 = true then sx_let (sI z26.2 2 (x23 + (1 : Int32)).toNatClampNeg z26.1) (fun q27 => (F7_number  (0 : Int32) (9 : Int32) q27).bind (fun z28 => (if sx_ix (x23 + (2 : Int32)) 84 = true then sx_let (sI z28.2 2 (x23 + (2 : Int32)).toNatClampNeg z28.1) (fun q29 => sx_let (sI q29 2 82 ((gI q29 2 82) + (1 : Int32))) (fun q30 => some ((), q30))) else none))) else none))) else none))) else (if v1 = (1 : Int32) then sx_let ((66 : Int32) + ((3 : Int32) * (gI q 2 83))) (fun x16 => (F7_number  (1 : Int32) (9 : Int32) q).bind (fun z17 => (if sx_ix x16 84 = true then sx_let (sI z17.2 2 x16.toNatClampNeg z17.1) (fun q18 => (F7_number  (0 : Int32) (9 : Int32) q18).bind (fun z19 => (if sx_ix (x16 + (1 : Int32)) 84 = true then sx_let (sI z19.2 2 (x16 + (1 : Int32)).toNatClampNeg z19.1) (fun q20 => (if sx_ix (x16 + (2 : Int32)) 84 = true then sx_let (sI q20 2 (x16 + (2 : Int32)).toNatClampNeg (0 : Int32)) (fun q21 => sx_let (sI q21 2 83 ((gI q21 2 83) + (1 : Int32))) (fun q22 => some ((), q22))) else none)) else none))) else none))) else (if v1 = (2 : Int32) then (F7_number  (0 : Int32) (99 : Int32) q).bind (fun z7 => sx_let (sI z7.2 2 78 z7.1) (fun q8 => (F7_number  (gI q8 2 78) (99 : Int32) q8).bind (fun z9 => sx_let (sI z9.2 2 79 z9.1) (fun q10 => (F7_takesWord  (3 : Int32) q10).bind (fun z11 => (if z11.1 = 0 then F7_readsItem_201  (1 : Int32) (80 : Int32) z11.2 else F7_readsItem_201  (0 : Int32) (80 : Int32) z11.2)))))) else (F7_number  (0 : Int32) ((gI q 2 83) - (1 : Int32)) q).bind (fun z1 => sx_let z1.1 (fun x2 => (F7_number  (0 : Int32) (9 : Int32) z1.2).bind (fun z3 => sx_let z3.1 (fun x4 => (F7_isWell   z3.2).bind (fun z5 => (if z5.1 = 0 then some ((), z5.2) else (if sx_ix (((66 : Int32) + ((3 : Int32) * x2)) + (2 : Int32)) 84 = true then sx_let (sI z5.2 2 (((66 : Int32) + ((3 : Int32) * x2)) + (2 : Int32)).toNatClampNeg x4) (fun q6 => some ((), q6)) else none))))))))))
set_option maxHeartbeats 400000 in
theorem F7_readsItem_ok (l : Launch)  {Q : Option Value → SQ → Prop} (v1 : Int32) (q : SQ) {res : Unit × SQ} (h : F7_readsItem  v1 q = some res) (hk9 : Q none res.2) : PF7_readsItem l Q 0 [(0, .ref 0), (1, .int v1)] [] q := by
  unfold F7_readsItem at h
  refine sx_iload_n dX7_readsItem_0 rfl rfl ?_
  refine sx_if_ne (tgt := 74) dX7_readsItem_1 (by decide) (fun c9 => ?_) (fun c9 => ?_)
  · replace h := sx_in h c9
    refine sx_iload_n dX7_readsItem_74 rfl rfl ?_
    refine sx_iconst (v := (1 : Int32)) dX7_readsItem_75 (by decide) ?_
    refine sx_icmp_ne (tgt := 143) dX7_readsItem_76 (by decide) (fun c9 => ?_) (fun c9 => ?_)
    · replace h := sx_in h c9
      refine sx_iload_n dX7_readsItem_143 rfl rfl ?_
      refine sx_iconst (v := (2 : Int32)) dX7_readsItem_144 (by decide) ?_
      refine sx_icmp_ne (tgt := 231) dX7_readsItem_145 (by decide) (fun c9 => ?_) (fun c9 => ?_)
      · replace h := sx_in h c9
        refine sx_aload_n dX7_readsItem_231 rfl rfl ?_
        refine sx_iconst (v := (0 : Int32)) dX7_readsItem_232 (by decide) ?_
        refine sx_aload_n dX7_readsItem_233 rfl rfl ?_
        refine sx_getR dX7_readsItem_234 (hs := shM_0) (k9 := 9) (hf := rfl) cb_X7 ⟨by decide, rfl, gw_808⟩ ?_
        refine sx_bipush (v := (83 : Int32)) dX7_readsItem_237 (by decide) ?_
        refine sx_ialdC (j9 := 83) dX7_readsItem_239 shM_2 (fun _ _ => rfl) (by decide) (by decide) ?_
        refine sx_iconst (v := (1 : Int32)) dX7_readsItem_240 (by decide) ?_
        refine sx_isub dX7_readsItem_241 ?_
        obtain ⟨z1, hz1, h⟩ := sx_bd h
        refine sx_callV (o := 0) (As := [.int (0 : Int32), .int ((gI q 2 83) - (1 : Int32))]) (rest := []) KSM (F7_number_ck l  (0 : Int32) ((gI q 2 83) - (1 : Int32)) q hz1) mi_X7_number gw_907 rfl ⟨gw_909, gw_38⟩ shM_0 rfl rfl ⟨Nat.le_of_ble_eq_true rfl, Nat.le_of_ble_eq_true rfl⟩ (Nat.le_of_ble_eq_true rfl) dX7_readsItem_242 rfl ?_
        obtain ⟨x2, ex2, h⟩ := sx_lt h
        refine sx_nmI ex2 ?_
        refine sx_istore_n (ls2 := [(2, .int x2), (0, .ref 0), (1, .int v1)]) dX7_readsItem_245 rfl (by decide) rfl ?_
        refine sx_aload_n dX7_readsItem_246 rfl rfl ?_
        refine sx_iconst (v := (0 : Int32)) dX7_readsItem_247 (by decide) ?_
        refine sx_bipush (v := (9 : Int32)) dX7_readsItem_248 (by decide) ?_
        obtain ⟨z3, hz3, h⟩ := sx_bd h
        refine sx_callV (o := 0) (As := [.int (0 : Int32), .int (9 : Int32)]) (rest := []) KSM (F7_number_ck l  (0 : Int32) (9 : Int32) z1.2 hz3) mi_X7_number gw_907 rfl ⟨gw_909, gw_38⟩ shM_0 rfl rfl ⟨Nat.le_of_ble_eq_true rfl, Nat.le_of_ble_eq_true rfl⟩ (Nat.le_of_ble_eq_true rfl) dX7_readsItem_250 rfl ?_
        obtain ⟨x4, ex4, h⟩ := sx_lt h
        refine sx_nmI ex4 ?_
        refine sx_istore_n (ls2 := [(3, .int x4), (2, .int x2), (0, .ref 0), (1, .int v1)]) dX7_readsItem_253 rfl (by decide) rfl ?_
        refine sx_aload_n dX7_readsItem_254 rfl rfl ?_
        obtain ⟨z5, hz5, h⟩ := sx_bd h
        refine sx_callV (o := 0) (As := []) (rest := []) KSM (F7_isWell_ck l   z3.2 hz5) mi_X7_isWell gw_895 rfl ⟨gw_897, gw_35⟩ shM_0 rfl rfl ⟨Nat.le_of_ble_eq_true rfl, Nat.le_of_ble_eq_true rfl⟩ (Nat.le_of_ble_eq_true rfl) dX7_readsItem_255 rfl ?_
        refine sx_if_eq (tgt := 275) dX7_readsItem_258 (by decide) (fun c9 => ?_) (fun c9 => ?_)
        · replace h := sx_ip h c9
          obtain rfl := Option.some.inj h
          exact sx_vret dX7_readsItem_275 rfl hk9
        · replace h := sx_in h c9
          refine sx_aload_n dX7_readsItem_261 rfl rfl ?_
          refine sx_getR dX7_readsItem_262 (hs := shM_0) (k9 := 9) (hf := rfl) cb_X7 ⟨by decide, rfl, gw_808⟩ ?_
          refine sx_bipush (v := (66 : Int32)) dX7_readsItem_265 (by decide) ?_
          refine sx_iconst (v := (3 : Int32)) dX7_readsItem_267 (by decide) ?_
          refine sx_iload_n dX7_readsItem_268 rfl rfl ?_
          refine sx_imul dX7_readsItem_269 ?_
          refine sx_iadd dX7_readsItem_270 ?_
          refine sx_iconst (v := (2 : Int32)) dX7_readsItem_271 (by decide) ?_
          refine sx_iadd dX7_readsItem_272 ?_
          refine sx_iload_n dX7_readsItem_273 rfl rfl ?_
          obtain ⟨g9, h⟩ := sx_gd h
          obtain ⟨q6, eq6, h⟩ := sx_lt h
          refine sx_iast dX7_readsItem_274 shM_2 (fun _ _ => rfl) (sx_ix_in g9) ?_
          refine sx_nmQ eq6 ?_
          obtain rfl := Option.some.inj h
          exact sx_vret dX7_readsItem_275 rfl hk9
      · replace h := sx_ip h c9
        refine sx_aload_n dX7_readsItem_148 rfl rfl ?_
        refine sx_getR dX7_readsItem_149 (hs := shM_0) (k9 := 9) (hf := rfl) cb_X7 ⟨by decide, rfl, gw_808⟩ ?_
        refine sx_bipush (v := (78 : Int32)) dX7_readsItem_152 (by decide) ?_
        refine sx_aload_n dX7_readsItem_154 rfl rfl ?_
        refine sx_iconst (v := (0 : Int32)) dX7_readsItem_155 (by decide) ?_
        refine sx_bipush (v := (99 : Int32)) dX7_readsItem_156 (by decide) ?_
        obtain ⟨z7, hz7, h⟩ := sx_bd h
        refine sx_callV (o := 0) (As := [.int (0 : Int32), .int (99 : Int32)]) (rest := [.int (78 : Int32), .ref 2]) KSM (F7_number_ck l  (0 : Int32) (99 : Int32) q hz7) mi_X7_number gw_907 rfl ⟨gw_909, gw_38⟩ shM_0 rfl rfl ⟨Nat.le_of_ble_eq_true rfl, Nat.le_of_ble_eq_true rfl⟩ (Nat.le_of_ble_eq_true rfl) dX7_readsItem_158 rfl ?_
        obtain ⟨q8, eq8, h⟩ := sx_lt h
        refine sx_iastC (j9 := 78) dX7_readsItem_161 shM_2 (fun _ _ => rfl) (by decide) (by decide) ?_
        refine sx_nmQ eq8 ?_
        refine sx_aload_n dX7_readsItem_162 rfl rfl ?_
        refine sx_getR dX7_readsItem_163 (hs := shM_0) (k9 := 9) (hf := rfl) cb_X7 ⟨by decide, rfl, gw_808⟩ ?_
        refine sx_bipush (v := (79 : Int32)) dX7_readsItem_166 (by decide) ?_
        refine sx_aload_n dX7_readsItem_168 rfl rfl ?_
        refine sx_aload_n dX7_readsItem_169 rfl rfl ?_
        refine sx_getR dX7_readsItem_170 (hs := shM_0) (k9 := 9) (hf := rfl) cb_X7 ⟨by decide, rfl, gw_808⟩ ?_
        refine sx_bipush (v := (78 : Int32)) dX7_readsItem_173 (by decide) ?_
        refine sx_ialdC (j9 := 78) dX7_readsItem_175 shM_2 (fun _ _ => rfl) (by decide) (by decide) ?_
        refine sx_bipush (v := (99 : Int32)) dX7_readsItem_176 (by decide) ?_
        obtain ⟨z9, hz9, h⟩ := sx_bd h
        refine sx_callV (o := 0) (As := [.int (gI q8 2 78), .int (99 : Int32)]) (rest := [.int (79 : Int32), .ref 2]) KSM (F7_number_ck l  (gI q8 2 78) (99 : Int32) q8 hz9) mi_X7_number gw_907 rfl ⟨gw_909, gw_38⟩ shM_0 rfl rfl ⟨Nat.le_of_ble_eq_true rfl, Nat.le_of_ble_eq_true rfl⟩ (Nat.le_of_ble_eq_true rfl) dX7_readsItem_178 rfl ?_
        obtain ⟨q10, eq10, h⟩ := sx_lt h
        refine sx_iastC (j9 := 79) dX7_readsItem_181 shM_2 (fun _ _ => rfl) (by decide) (by decide) ?_
        refine sx_nmQ eq10 ?_
        refine sx_aload_n dX7_readsItem_182 rfl rfl ?_
        refine sx_getR dX7_readsItem_183 (hs := shM_0) (k9 := 9) (hf := rfl) cb_X7 ⟨by decide, rfl, gw_808⟩ ?_
        refine sx_bipush (v := (80 : Int32)) dX7_readsItem_186 (by decide) ?_
        refine sx_aload_n dX7_readsItem_188 rfl rfl ?_
        refine sx_iconst (v := (3 : Int32)) dX7_readsItem_189 (by decide) ?_
        obtain ⟨z11, hz11, h⟩ := sx_bd h
        refine sx_callV (o := 0) (As := [.int (3 : Int32)]) (rest := [.int (80 : Int32), .ref 2]) KSM (F7_takesWord_ck l  (3 : Int32) q10 hz11) mi_X7_takesWord gw_911 rfl ⟨gw_913, gw_39⟩ shM_0 rfl rfl ⟨Nat.le_of_ble_eq_true rfl, Nat.le_of_ble_eq_true rfl⟩ (Nat.le_of_ble_eq_true rfl) dX7_readsItem_190 rfl ?_
        refine sx_if_eq (tgt := 200) dX7_readsItem_193 (by decide) (fun c9 => ?_) (fun c9 => ?_)
        · replace h := sx_ip h c9
          refine sx_iconst (v := (1 : Int32)) dX7_readsItem_200 (by decide) ?_
          refine sx_locs [0] rfl ?_
          exact F7_readsItem_201_ok l  (1 : Int32) (80 : Int32) z11.2 h hk9
        · replace h := sx_in h c9
          refine sx_iconst (v := (0 : Int32)) dX7_readsItem_196 (by decide) ?_
          refine sx_goto (tgt := 201) dX7_readsItem_197 (by decide) ?_
          refine sx_locs [0] rfl ?_
          exact F7_readsItem_201_ok l  (0 : Int32) (80 : Int32) z11.2 h hk9
    · replace h := sx_ip h c9
      refine sx_bipush (v := (66 : Int32)) dX7_readsItem_79 (by decide) ?_
      refine sx_iconst (v := (3 : Int32)) dX7_readsItem_81 (by decide) ?_
      refine sx_aload_n dX7_readsItem_82 rfl rfl ?_
      refine sx_getR dX7_readsItem_83 (hs := shM_0) (k9 := 9) (hf := rfl) cb_X7 ⟨by decide, rfl, gw_808⟩ ?_
      refine sx_bipush (v := (83 : Int32)) dX7_readsItem_86 (by decide) ?_
      refine sx_ialdC (j9 := 83) dX7_readsItem_88 shM_2 (fun _ _ => rfl) (by decide) (by decide) ?_
      refine sx_imul dX7_readsItem_89 ?_
      refine sx_iadd dX7_readsItem_90 ?_
      obtain ⟨x16, ex16, h⟩ := sx_lt h
      refine sx_nmI ex16 ?_
      refine sx_istore_n (ls2 := [(2, .int x16), (0, .ref 0), (1, .int v1)]) dX7_readsItem_91 rfl (by decide) rfl ?_
      refine sx_aload_n dX7_readsItem_92 rfl rfl ?_
      refine sx_getR dX7_readsItem_93 (hs := shM_0) (k9 := 9) (hf := rfl) cb_X7 ⟨by decide, rfl, gw_808⟩ ?_
      refine sx_iload_n dX7_readsItem_96 rfl rfl ?_
      refine sx_aload_n dX7_readsItem_97 rfl rfl ?_
      refine sx_iconst (v := (1 : Int32)) dX7_readsItem_98 (by decide) ?_
      refine sx_bipush (v := (9 : Int32)) dX7_readsItem_99 (by decide) ?_
      obtain ⟨z17, hz17, h⟩ := sx_bd h
      refine sx_callV (o := 0) (As := [.int (1 : Int32), .int (9 : Int32)]) (rest := [.int x16, .ref 2]) KSM (F7_number_ck l  (1 : Int32) (9 : Int32) q hz17) mi_X7_number gw_907 rfl ⟨gw_909, gw_38⟩ shM_0 rfl rfl ⟨Nat.le_of_ble_eq_true rfl, Nat.le_of_ble_eq_true rfl⟩ (Nat.le_of_ble_eq_true rfl) dX7_readsItem_101 rfl ?_
      obtain ⟨g9, h⟩ := sx_gd h
      obtain ⟨q18, eq18, h⟩ := sx_lt h
      refine sx_iast dX7_readsItem_104 shM_2 (fun _ _ => rfl) (sx_ix_in g9) ?_
      refine sx_nmQ eq18 ?_
      refine sx_aload_n dX7_readsItem_105 rfl rfl ?_
      refine sx_getR dX7_readsItem_106 (hs := shM_0) (k9 := 9) (hf := rfl) cb_X7 ⟨by decide, rfl, gw_808⟩ ?_
      refine sx_iload_n dX7_readsItem_109 rfl rfl ?_
      refine sx_iconst (v := (1 : Int32)) dX7_readsItem_110 (by decide) ?_
      refine sx_iadd dX7_readsItem_111 ?_
      refine sx_aload_n dX7_readsItem_112 rfl rfl ?_
      refine sx_iconst (v := (0 : Int32)) dX7_readsItem_113 (by decide) ?_
      refine sx_bipush (v := (9 : Int32)) dX7_readsItem_114 (by decide) ?_
      obtain ⟨z19, hz19, h⟩ := sx_bd h
      refine sx_callV (o := 0) (As := [.int (0 : Int32), .int (9 : Int32)]) (rest := [.int (x16 + (1 : Int32)), .ref 2]) KSM (F7_number_ck l  (0 : Int32) (9 : Int32) q18 hz19) mi_X7_number gw_907 rfl ⟨gw_909, gw_38⟩ shM_0 rfl rfl ⟨Nat.le_of_ble_eq_true rfl, Nat.le_of_ble_eq_true rfl⟩ (Nat.le_of_ble_eq_true rfl) dX7_readsItem_116 rfl ?_
      obtain ⟨g9, h⟩ := sx_gd h
      obtain ⟨q20, eq20, h⟩ := sx_lt h
      refine sx_iast dX7_readsItem_119 shM_2 (fun _ _ => rfl) (sx_ix_in g9) ?_
      refine sx_nmQ eq20 ?_
      refine sx_aload_n dX7_readsItem_120 rfl rfl ?_
      refine sx_getR dX7_readsItem_121 (hs := shM_0) (k9 := 9) (hf := rfl) cb_X7 ⟨by decide, rfl, gw_808⟩ ?_
      refine sx_iload_n dX7_readsItem_124 rfl rfl ?_
      refine sx_iconst (v := (2 : Int32)) dX7_readsItem_125 (by decide) ?_
      refine sx_iadd dX7_readsItem_126 ?_
      refine sx_iconst (v := (0 : Int32)) dX7_readsItem_127 (by decide) ?_
      obtain ⟨g9, h⟩ := sx_gd h
      obtain ⟨q21, eq21, h⟩ := sx_lt h
      refine sx_iast dX7_readsItem_128 shM_2 (fun _ _ => rfl) (sx_ix_in g9) ?_
      refine sx_nmQ eq21 ?_
      refine sx_aload_n dX7_readsItem_129 rfl rfl ?_
      refine sx_getR dX7_readsItem_130 (hs := shM_0) (k9 := 9) (hf := rfl) cb_X7 ⟨by decide, rfl, gw_808⟩ ?_
      refine sx_bipush (v := (83 : Int32)) dX7_readsItem_133 (by decide) ?_
      refine sx_dup2_11 dX7_readsItem_135 rfl rfl ?_
      refine sx_ialdC (j9 := 83) dX7_readsItem_136 shM_2 (fun _ _ => rfl) (by decide) (by decide) ?_
      refine sx_iconst (v := (1 : Int32)) dX7_readsItem_137 (by decide) ?_
      refine sx_iadd dX7_readsItem_138 ?_
      obtain ⟨q22, eq22, h⟩ := sx_lt h
      refine sx_iastC (j9 := 83) dX7_readsItem_139 shM_2 (fun _ _ => rfl) (by decide) (by decide) ?_
      refine sx_nmQ eq22 ?_
      refine sx_goto (tgt := 275) dX7_readsItem_140 (by decide) ?_
      obtain rfl := Option.some.inj h
      exact sx_vret dX7_readsItem_275 rfl hk9
  · replace h := sx_ip h c9
    refine sx_bipush (v := (42 : Int32)) dX7_readsItem_4 (by decide) ?_
    refine sx_iconst (v := (3 : Int32)) dX7_readsItem_6 (by decide) ?_
    refine sx_aload_n dX7_readsItem_7 rfl rfl ?_
    refine sx_getR dX7_readsItem_8 (hs := shM_0) (k9 := 9) (hf := rfl) cb_X7 ⟨by decide, rfl, gw_808⟩ ?_
    refine sx_bipush (v := (82 : Int32)) dX7_readsItem_11 (by decide) ?_
    refine sx_ialdC (j9 := 82) dX7_readsItem_13 shM_2 (fun _ _ => rfl) (by decide) (by decide) ?_
    refine sx_imul dX7_readsItem_14 ?_
    refine sx_iadd dX7_readsItem_15 ?_
    obtain ⟨x23, ex23, h⟩ := sx_lt h
    refine sx_nmI ex23 ?_
    refine sx_istore_n (ls2 := [(2, .int x23), (0, .ref 0), (1, .int v1)]) dX7_readsItem_16 rfl (by decide) rfl ?_
    refine sx_aload_n dX7_readsItem_17 rfl rfl ?_
    refine sx_getR dX7_readsItem_18 (hs := shM_0) (k9 := 9) (hf := rfl) cb_X7 ⟨by decide, rfl, gw_808⟩ ?_
    refine sx_iload_n dX7_readsItem_21 rfl rfl ?_
    refine sx_aload_n dX7_readsItem_22 rfl rfl ?_
    refine sx_iconst (v := (0 : Int32)) dX7_readsItem_23 (by decide) ?_
    refine sx_bipush (v := (100 : Int32)) dX7_readsItem_24 (by decide) ?_
    obtain ⟨z24, hz24, h⟩ := sx_bd h
    refine sx_callV (o := 0) (As := [.int (0 : Int32), .int (100 : Int32)]) (rest := [.int x23, .ref 2]) KSM (F7_number_ck l  (0 : Int32) (100 : Int32) q hz24) mi_X7_number gw_907 rfl ⟨gw_909, gw_38⟩ shM_0 rfl rfl ⟨Nat.le_of_ble_eq_true rfl, Nat.le_of_ble_eq_true rfl⟩ (Nat.le_of_ble_eq_true rfl) dX7_readsItem_26 rfl ?_
    obtain ⟨g9, h⟩ := sx_gd h
    obtain ⟨q25, eq25, h⟩ := sx_lt h
    refine sx_iast dX7_readsItem_29 shM_2 (fun _ _ => rfl) (sx_ix_in g9) ?_
    refine sx_nmQ eq25 ?_
    refine sx_aload_n dX7_readsItem_30 rfl rfl ?_
    refine sx_getR dX7_readsItem_31 (hs := shM_0) (k9 := 9) (hf := rfl) cb_X7 ⟨by decide, rfl, gw_808⟩ ?_
    refine sx_iload_n dX7_readsItem_34 rfl rfl ?_
    refine sx_iconst (v := (1 : Int32)) dX7_readsItem_35 (by decide) ?_
    refine sx_iadd dX7_readsItem_36 ?_
    refine sx_aload_n dX7_readsItem_37 rfl rfl ?_
    refine sx_iconst (v := (1 : Int32)) dX7_readsItem_38 (by decide) ?_
    refine sx_bipush (v := (9 : Int32)) dX7_readsItem_39 (by decide) ?_
    obtain ⟨z26, hz26, h⟩ := sx_bd h
    refine sx_callV (o := 0) (As := [.int (1 : Int32), .int (9 : Int32)]) (rest := [.int (x23 + (1 : Int32)), .ref 2]) KSM (F7_number_ck l  (1 : Int32) (9 : Int32) q25 hz26) mi_X7_number gw_907 rfl ⟨gw_909, gw_38⟩ shM_0 rfl rfl ⟨Nat.le_of_ble_eq_true rfl, Nat.le_of_ble_eq_true rfl⟩ (Nat.le_of_ble_eq_true rfl) dX7_readsItem_41 rfl ?_
    obtain ⟨g9, h⟩ := sx_gd h
    obtain ⟨q27, eq27, h⟩ := sx_lt h
    refine sx_iast dX7_readsItem_44 shM_2 (fun _ _ => rfl) (sx_ix_in g9) ?_
    refine sx_nmQ eq27 ?_
    refine sx_aload_n dX7_readsItem_45 rfl rfl ?_
    refine sx_getR dX7_readsItem_46 (hs := shM_0) (k9 := 9) (hf := rfl) cb_X7 ⟨by decide, rfl, gw_808⟩ ?_
    refine sx_iload_n dX7_readsItem_49 rfl rfl ?_
    refine sx_iconst (v := (2 : Int32)) dX7_readsItem_50 (by decide) ?_
    refine sx_iadd dX7_readsItem_51 ?_
    refine sx_aload_n dX7_readsItem_52 rfl rfl ?_
    refine sx_iconst (v := (0 : Int32)) dX7_readsItem_53 (by decide) ?_
    refine sx_bipush (v := (9 : Int32)) dX7_readsItem_54 (by decide) ?_
    obtain ⟨z28, hz28, h⟩ := sx_bd h
    refine sx_callV (o := 0) (As := [.int (0 : Int32), .int (9 : Int32)]) (rest := [.int (x23 + (2 : Int32)), .ref 2]) KSM (F7_number_ck l  (0 : Int32) (9 : Int32) q27 hz28) mi_X7_number gw_907 rfl ⟨gw_909, gw_38⟩ shM_0 rfl rfl ⟨Nat.le_of_ble_eq_true rfl, Nat.le_of_ble_eq_true rfl⟩ (Nat.le_of_ble_eq_true rfl) dX7_readsItem_56 rfl ?_
    obtain ⟨g9, h⟩ := sx_gd h
    obtain ⟨q29, eq29, h⟩ := sx_lt h
    refine sx_iast dX7_readsItem_59 shM_2 (fun _ _ => rfl) (sx_ix_in g9) ?_
    refine sx_nmQ eq29 ?_
    refine sx_aload_n dX7_readsItem_60 rfl rfl ?_
    refine sx_getR dX7_readsItem_61 (hs := shM_0) (k9 := 9) (hf := rfl) cb_X7 ⟨by decide, rfl, gw_808⟩ ?_
    refine sx_bipush (v := (82 : Int32)) dX7_readsItem_64 (by decide) ?_
    refine sx_dup2_11 dX7_readsItem_66 rfl rfl ?_
    refine sx_ialdC (j9 := 82) dX7_readsItem_67 shM_2 (fun _ _ => rfl) (by decide) (by decide) ?_
    refine sx_iconst (v := (1 : Int32)) dX7_readsItem_68 (by decide) ?_
    refine sx_iadd dX7_readsItem_69 ?_
    obtain ⟨q30, eq30, h⟩ := sx_lt h
    refine sx_iastC (j9 := 82) dX7_readsItem_70 shM_2 (fun _ _ => rfl) (by decide) (by decide) ?_
    refine sx_nmQ eq30 ?_
    refine sx_goto (tgt := 275) dX7_readsItem_71 (by decide) ?_
    obtain rfl := Option.some.inj h
    exact sx_vret dX7_readsItem_275 rfl hk9
theorem F7_readsItem_ck (l : Launch)  (v1 : Int32) (q : SQ) {r : Unit × SQ} (h : F7_readsItem  v1 q = some r) : CK shM vwCl KM tfM l yX7_readsItem cX7_readsItem 4 (none) 6 135 [.ref 0, .int v1] q none r.2 :=
  CK.of mi_X7_readsItem (Nat.le_of_ble_eq_true rfl) (F7_readsItem_ok l  v1 q h ⟨rfl, rfl⟩)
theorem mi_X7_begins : sx_MI yX7_begins cX7_begins 3 (none) 1 := ⟨by decide, ⟨by decide, by decide, by decide +kernel⟩, gw_798, gw_68⟩
abbrev PF7_begins (l : Launch) (Q : Option Value → SQ → Prop) : Nat → List (Nat × Value) → List Value → SQ → Prop := XX shM vwCl KM tfM l RX7 cX7_begins 3 (none) { frames := 0, cells := 0, slots := 0, locals := 0 } Q
def F7_begins_11b (r1 : Nat) (v2 : Int32) (q : SQ) : Option ((Int32 × SQ) ⊕ (Unit × SQ)) :=
  (if (8 : Int32) ≤ v2 then some (.inr ((), q)) else (if sx_ix ((3 : Int32) * v2) 84 = true then (if sx_ix ((3 : Int32) + ((3 : Int32) * v2)) 27 = true then sx_let (sI q r1 ((3 : Int32) + ((3 : Int32) * v2)).toNatClampNeg (gI q 2 ((3 : Int32) * v2).toNatClampNeg)) (fun q3 => (if sx_ix (((3 : Int32) + ((3 : Int32) * v2)) + (1 : Int32)) 27 = true then sx_let (sI q3 r1 (((3 : Int32) + ((3 : Int32) * v2)) + (1 : Int32)).toNatClampNeg (0 : Int32)) (fun q4 => (if sx_ix (((3 : Int32) + ((3 : Int32) * v2)) + (2 : Int32)) 27 = true then sx_let (sI q4 r1 (((3 : Int32) + ((3 : Int32) * v2)) + (2 : Int32)).toNatClampNeg (0 : Int32)) (fun q5 => sx_let (v2 + (1 : Int32)) (fun x6 => some (.inl (x6, q5)))) else none)) else none)) else none) else none))
set_option maxHeartbeats 400000 in
theorem F7_begins_11b_ok (l : Launch) (r1 : Nat) (hr1 : iA27 r1) {Q : Option Value → SQ → Prop} (v2 : Int32) (q : SQ) {res : (Int32 × SQ) ⊕ (Unit × SQ)} (h : F7_begins_11b r1 v2 q = some res) (hk9 : (∀ a7, res = .inl a7 → PF7_begins l Q 11 [(0, .ref 0), (1, .ref r1), (2, .int a7.1)] [] a7.2) ∧ (∀ b8, res = .inr b8 → Q none b8.2)) : PF7_begins l Q 11 [(0, .ref 0), (1, .ref r1), (2, .int v2)] [] q := by
  unfold F7_begins_11b at h
  refine sx_iload_n dX7_begins_11 rfl rfl ?_
  refine sx_bipush (v := (8 : Int32)) dX7_begins_12 (by decide) ?_
  refine sx_icmp_ge (tgt := 58) dX7_begins_14 (by decide) (fun c9 => ?_) (fun c9 => ?_)
  · replace h := sx_ip h c9
    have hk9 := hk9.2 _ (Option.some.inj h).symm
    exact sx_vret dX7_begins_58 rfl hk9
  · replace h := sx_in h c9
    refine sx_aload_n dX7_begins_17 rfl rfl ?_
    refine sx_iconst (v := (3 : Int32)) dX7_begins_18 (by decide) ?_
    refine sx_iconst (v := (3 : Int32)) dX7_begins_19 (by decide) ?_
    refine sx_iload_n dX7_begins_20 rfl rfl ?_
    refine sx_imul dX7_begins_21 ?_
    refine sx_iadd dX7_begins_22 ?_
    refine sx_aload_n dX7_begins_23 rfl rfl ?_
    refine sx_getR dX7_begins_24 (hs := shM_0) (k9 := 9) (hf := rfl) cb_X7 ⟨by decide, rfl, gw_808⟩ ?_
    refine sx_iconst (v := (3 : Int32)) dX7_begins_27 (by decide) ?_
    refine sx_iload_n dX7_begins_28 rfl rfl ?_
    refine sx_imul dX7_begins_29 ?_
    obtain ⟨g9, h⟩ := sx_gd h
    refine sx_iald dX7_begins_30 shM_2 (fun _ _ => rfl) (sx_ix_in g9) ?_
    obtain ⟨g9, h⟩ := sx_gd h
    obtain ⟨q3, eq3, h⟩ := sx_lt h
    refine sx_iast dX7_begins_31 hr1 (fun _ _ => rfl) (sx_ix_in g9) ?_
    refine sx_nmQ eq3 ?_
    refine sx_aload_n dX7_begins_32 rfl rfl ?_
    refine sx_iconst (v := (3 : Int32)) dX7_begins_33 (by decide) ?_
    refine sx_iconst (v := (3 : Int32)) dX7_begins_34 (by decide) ?_
    refine sx_iload_n dX7_begins_35 rfl rfl ?_
    refine sx_imul dX7_begins_36 ?_
    refine sx_iadd dX7_begins_37 ?_
    refine sx_iconst (v := (1 : Int32)) dX7_begins_38 (by decide) ?_
    refine sx_iadd dX7_begins_39 ?_
    refine sx_iconst (v := (0 : Int32)) dX7_begins_40 (by decide) ?_
    obtain ⟨g9, h⟩ := sx_gd h
    obtain ⟨q4, eq4, h⟩ := sx_lt h
    refine sx_iast dX7_begins_41 hr1 (fun _ _ => rfl) (sx_ix_in g9) ?_
    refine sx_nmQ eq4 ?_
    refine sx_aload_n dX7_begins_42 rfl rfl ?_
    refine sx_iconst (v := (3 : Int32)) dX7_begins_43 (by decide) ?_
    refine sx_iconst (v := (3 : Int32)) dX7_begins_44 (by decide) ?_
    refine sx_iload_n dX7_begins_45 rfl rfl ?_
    refine sx_imul dX7_begins_46 ?_
    refine sx_iadd dX7_begins_47 ?_
    refine sx_iconst (v := (2 : Int32)) dX7_begins_48 (by decide) ?_
    refine sx_iadd dX7_begins_49 ?_
    refine sx_iconst (v := (0 : Int32)) dX7_begins_50 (by decide) ?_
    obtain ⟨g9, h⟩ := sx_gd h
    obtain ⟨q5, eq5, h⟩ := sx_lt h
    refine sx_iast dX7_begins_51 hr1 (fun _ _ => rfl) (sx_ix_in g9) ?_
    refine sx_nmQ eq5 ?_
    obtain ⟨x6, ex6, h⟩ := sx_lt h
    refine sx_iinc (k9 := 2) (v := x6) (ls2 := [(2, .int x6), (0, .ref 0), (1, .ref r1)]) dX7_begins_52 rfl (by rw [ex6, sx_ofI1]) (by decide) rfl ?_
    refine sx_goto (tgt := 11) dX7_begins_55 (by decide) ?_
    refine sx_locs [1, 2, 0] rfl ?_
    exact hk9.1 (x6, q5) (Option.some.inj h).symm
def F7_begins_11 (r1 : Nat) (v2 : Int32) (q : SQ) : Option (Unit × SQ) := sx_loop (fun s9 => F7_begins_11b r1 s9.1 s9.2) FU (v2, q)
set_option maxHeartbeats 400000 in
theorem F7_begins_11_ok (l : Launch) (r1 : Nat) (hr1 : iA27 r1) {Q : Option Value → SQ → Prop} (v2 : Int32) (q : SQ) {t : Unit × SQ} (h : F7_begins_11 r1 v2 q = some t) (hk9 : Q none t.2) : PF7_begins l Q 11 [(0, .ref 0), (1, .ref r1), (2, .int v2)] [] q := by
  unfold F7_begins_11 at h
  have st : ∀ (s : Int32 × SQ) (res : (Int32 × SQ) ⊕ (Unit × SQ)), F7_begins_11b r1 s.1 s.2 = some res → (∀ s2, res = .inl s2 → PF7_begins l Q 11 [(0, .ref 0), (1, .ref r1), (2, .int s2.1)] [] s2.2) → (∀ t2, res = .inr t2 → Q none t2.2) → PF7_begins l Q 11 [(0, .ref 0), (1, .ref r1), (2, .int s.1)] [] s.2 :=
    fun s res hb hi ho => F7_begins_11b_ok l r1 hr1 s.1 s.2 hb ⟨hi, ho⟩
  have h9 : PF7_begins l Q 11 [(0, .ref 0), (1, .ref r1), (2, .int v2)] [] q := sx_lp (body := fun s => F7_begins_11b r1 s.1 s.2) (P := fun s => PF7_begins l Q 11 [(0, .ref 0), (1, .ref r1), (2, .int s.1)] [] s.2) (T := fun t => Q none t.2) st FU (v2, q) t h hk9
  exact h9
def F7_begins (r1 : Nat)  (q : SQ) : Option (Unit × SQ) :=
  sx_let (sI q r1 0 (0 : Int32)) (fun q1 => sx_let (sI q1 r1 1 (100 : Int32)) (fun q2 => F7_begins_11 r1 (0 : Int32) q2))
set_option maxHeartbeats 400000 in
theorem F7_begins_ok (l : Launch) (r1 : Nat) (hr1 : iA27 r1) {Q : Option Value → SQ → Prop}  (q : SQ) {res : Unit × SQ} (h : F7_begins r1  q = some res) (hk9 : Q none res.2) : PF7_begins l Q 0 [(0, .ref 0), (1, .ref r1)] [] q := by
  unfold F7_begins at h
  refine sx_aload_n dX7_begins_0 rfl rfl ?_
  refine sx_iconst (v := (0 : Int32)) dX7_begins_1 (by decide) ?_
  refine sx_iconst (v := (0 : Int32)) dX7_begins_2 (by decide) ?_
  obtain ⟨q1, eq1, h⟩ := sx_lt h
  refine sx_iastC (j9 := 0) dX7_begins_3 hr1 (fun _ _ => rfl) (by decide) (by decide) ?_
  refine sx_nmQ eq1 ?_
  refine sx_aload_n dX7_begins_4 rfl rfl ?_
  refine sx_iconst (v := (1 : Int32)) dX7_begins_5 (by decide) ?_
  refine sx_bipush (v := (100 : Int32)) dX7_begins_6 (by decide) ?_
  obtain ⟨q2, eq2, h⟩ := sx_lt h
  refine sx_iastC (j9 := 1) dX7_begins_8 hr1 (fun _ _ => rfl) (by decide) (by decide) ?_
  refine sx_nmQ eq2 ?_
  refine sx_iconst (v := (0 : Int32)) dX7_begins_9 (by decide) ?_
  refine sx_istore_n (ls2 := [(2, .int (0 : Int32)), (0, .ref 0), (1, .ref r1)]) dX7_begins_10 rfl (by decide) rfl ?_
  refine sx_locs [1, 2, 0] rfl ?_
  exact F7_begins_11_ok l r1 hr1 (0 : Int32) q2 h hk9
theorem F7_begins_ck (l : Launch) (r1 : Nat) (hr1 : iA27 r1)  (q : SQ) {r : Unit × SQ} (h : F7_begins r1  q = some r) : CK shM vwCl KM tfM l yX7_begins cX7_begins 3 (none) 0 0 [.ref 0, .ref r1] q none r.2 :=
  CK.of mi_X7_begins (Nat.le_of_ble_eq_true rfl) (F7_begins_ok l r1 hr1  q h ⟨rfl, rfl⟩)
theorem mi_X7_adopts : sx_MI yX7_adopts cX7_adopts 2 (none) 0 := ⟨by decide, ⟨by decide, by decide, by decide +kernel⟩, gw_794, gw_68⟩
abbrev PF7_adopts (l : Launch) (Q : Option Value → SQ → Prop) : Nat → List (Nat × Value) → List Value → SQ → Prop := XX shM vwCl KM tfM l RX7 cX7_adopts 2 (none) { frames := 1, cells := 0, slots := 0, locals := 22 } Q
def F7_adopts_2b  (v1 : Int32) (q : SQ) : Option ((Int32 × SQ) ⊕ (Unit × SQ)) :=
  (if (42 : Int32) ≤ v1 then sx_let (sI q 6 0 (0 : Int32)) (fun q1 => sx_let (sI q1 6 1 (0 : Int32)) (fun q2 => (F7_begins 4  q2).bind (fun z3 => some (.inr ((), z3.2))))) else (if sx_ix ((42 : Int32) + v1) 84 = true then (if sx_ix v1 84 = true then sx_let (sI q 2 v1.toNatClampNeg (gI q 2 ((42 : Int32) + v1).toNatClampNeg)) (fun q4 => sx_let (v1 + (1 : Int32)) (fun x5 => some (.inl (x5, q4)))) else none) else none))
set_option maxHeartbeats 400000 in
theorem F7_adopts_2b_ok (l : Launch)  {Q : Option Value → SQ → Prop} (v1 : Int32) (q : SQ) {res : (Int32 × SQ) ⊕ (Unit × SQ)} (h : F7_adopts_2b  v1 q = some res) (hk9 : (∀ a6, res = .inl a6 → PF7_adopts l Q 2 [(0, .ref 0), (1, .int a6.1)] [] a6.2) ∧ (∀ b7, res = .inr b7 → Q none b7.2)) : PF7_adopts l Q 2 [(0, .ref 0), (1, .int v1)] [] q := by
  unfold F7_adopts_2b at h
  refine sx_iload_n dX7_adopts_2 rfl rfl ?_
  refine sx_bipush (v := (42 : Int32)) dX7_adopts_3 (by decide) ?_
  refine sx_icmp_ge (tgt := 29) dX7_adopts_5 (by decide) (fun c9 => ?_) (fun c9 => ?_)
  · replace h := sx_ip h c9
    refine sx_aload_n dX7_adopts_29 rfl rfl ?_
    refine sx_getR dX7_adopts_30 (hs := shM_0) (k9 := 13) (hf := rfl) cb_X7 ⟨by decide, rfl, gw_812⟩ ?_
    refine sx_iconst (v := (0 : Int32)) dX7_adopts_33 (by decide) ?_
    refine sx_iconst (v := (0 : Int32)) dX7_adopts_34 (by decide) ?_
    obtain ⟨q1, eq1, h⟩ := sx_lt h
    refine sx_zastC (j9 := 0) dX7_adopts_35 shM_6 (fun _ _ => rfl) (by decide) (by decide) (by decide) ?_
    refine sx_nmQ eq1 ?_
    refine sx_aload_n dX7_adopts_36 rfl rfl ?_
    refine sx_getR dX7_adopts_37 (hs := shM_0) (k9 := 13) (hf := rfl) cb_X7 ⟨by decide, rfl, gw_812⟩ ?_
    refine sx_iconst (v := (1 : Int32)) dX7_adopts_40 (by decide) ?_
    refine sx_iconst (v := (0 : Int32)) dX7_adopts_41 (by decide) ?_
    obtain ⟨q2, eq2, h⟩ := sx_lt h
    refine sx_zastC (j9 := 1) dX7_adopts_42 shM_6 (fun _ _ => rfl) (by decide) (by decide) (by decide) ?_
    refine sx_nmQ eq2 ?_
    refine sx_aload_n dX7_adopts_43 rfl rfl ?_
    refine sx_aload_n dX7_adopts_44 rfl rfl ?_
    refine sx_getR dX7_adopts_45 (hs := shM_0) (k9 := 11) (hf := rfl) cb_X7 ⟨by decide, rfl, gw_810⟩ ?_
    obtain ⟨z3, hz3, h⟩ := sx_bd h
    refine sx_callV (o := 0) (As := [.ref 4]) (rest := []) KSM (F7_begins_ck l 4 shM_4  q2 hz3) mi_X7_begins gw_795 rfl ⟨gw_797, gw_32⟩ shM_0 rfl rfl ⟨Nat.le_of_ble_eq_true rfl, Nat.le_of_ble_eq_true rfl⟩ (Nat.le_of_ble_eq_true rfl) dX7_adopts_48 rfl ?_
    have hk9 := hk9.2 _ (Option.some.inj h).symm
    exact sx_vret dX7_adopts_51 rfl hk9
  · replace h := sx_in h c9
    refine sx_aload_n dX7_adopts_8 rfl rfl ?_
    refine sx_getR dX7_adopts_9 (hs := shM_0) (k9 := 9) (hf := rfl) cb_X7 ⟨by decide, rfl, gw_808⟩ ?_
    refine sx_iload_n dX7_adopts_12 rfl rfl ?_
    refine sx_aload_n dX7_adopts_13 rfl rfl ?_
    refine sx_getR dX7_adopts_14 (hs := shM_0) (k9 := 9) (hf := rfl) cb_X7 ⟨by decide, rfl, gw_808⟩ ?_
    refine sx_bipush (v := (42 : Int32)) dX7_adopts_17 (by decide) ?_
    refine sx_iload_n dX7_adopts_19 rfl rfl ?_
    refine sx_iadd dX7_adopts_20 ?_
    obtain ⟨g9, h⟩ := sx_gd h
    refine sx_iald dX7_adopts_21 shM_2 (fun _ _ => rfl) (sx_ix_in g9) ?_
    obtain ⟨g9, h⟩ := sx_gd h
    obtain ⟨q4, eq4, h⟩ := sx_lt h
    refine sx_iast dX7_adopts_22 shM_2 (fun _ _ => rfl) (sx_ix_in g9) ?_
    refine sx_nmQ eq4 ?_
    obtain ⟨x5, ex5, h⟩ := sx_lt h
    refine sx_iinc (k9 := 1) (v := x5) (ls2 := [(1, .int x5), (0, .ref 0)]) dX7_adopts_23 rfl (by rw [ex5, sx_ofI1]) (by decide) rfl ?_
    refine sx_goto (tgt := 2) dX7_adopts_26 (by decide) ?_
    refine sx_locs [1, 0] rfl ?_
    exact hk9.1 (x5, q4) (Option.some.inj h).symm
def F7_adopts_2  (v1 : Int32) (q : SQ) : Option (Unit × SQ) := sx_loop (fun s8 => F7_adopts_2b  s8.1 s8.2) FU (v1, q)
set_option maxHeartbeats 400000 in
theorem F7_adopts_2_ok (l : Launch)  {Q : Option Value → SQ → Prop} (v1 : Int32) (q : SQ) {t : Unit × SQ} (h : F7_adopts_2  v1 q = some t) (hk9 : Q none t.2) : PF7_adopts l Q 2 [(0, .ref 0), (1, .int v1)] [] q := by
  unfold F7_adopts_2 at h
  have st : ∀ (s : Int32 × SQ) (res : (Int32 × SQ) ⊕ (Unit × SQ)), F7_adopts_2b  s.1 s.2 = some res → (∀ s2, res = .inl s2 → PF7_adopts l Q 2 [(0, .ref 0), (1, .int s2.1)] [] s2.2) → (∀ t2, res = .inr t2 → Q none t2.2) → PF7_adopts l Q 2 [(0, .ref 0), (1, .int s.1)] [] s.2 :=
    fun s res hb hi ho => F7_adopts_2b_ok l  s.1 s.2 hb ⟨hi, ho⟩
  have h9 : PF7_adopts l Q 2 [(0, .ref 0), (1, .int v1)] [] q := sx_lp (body := fun s => F7_adopts_2b  s.1 s.2) (P := fun s => PF7_adopts l Q 2 [(0, .ref 0), (1, .int s.1)] [] s.2) (T := fun t => Q none t.2) st FU (v1, q) t h hk9
  exact h9
def F7_adopts   (q : SQ) : Option (Unit × SQ) :=
  F7_adopts_2  (0 : Int32) q
set_option maxHeartbeats 400000 in
theorem F7_adopts_ok (l : Launch)  {Q : Option Value → SQ → Prop}  (q : SQ) {res : Unit × SQ} (h : F7_adopts   q = some res) (hk9 : Q none res.2) : PF7_adopts l Q 0 [(0, .ref 0)] [] q := by
  unfold F7_adopts at h
  refine sx_iconst (v := (0 : Int32)) dX7_adopts_0 (by decide) ?_
  refine sx_istore_n (ls2 := [(1, .int (0 : Int32)), (0, .ref 0)]) dX7_adopts_1 rfl (by decide) rfl ?_
  refine sx_locs [1, 0] rfl ?_
  exact F7_adopts_2_ok l  (0 : Int32) q h hk9
theorem F7_adopts_ck (l : Launch)   (q : SQ) {r : Unit × SQ} (h : F7_adopts   q = some r) : CK shM vwCl KM tfM l yX7_adopts cX7_adopts 2 (none) 1 22 [.ref 0] q none r.2 :=
  CK.of mi_X7_adopts (Nat.le_of_ble_eq_true rfl) (F7_adopts_ok l   q h ⟨rfl, rfl⟩)
