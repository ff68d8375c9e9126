theorem dJ0_length_8abf5_0 : decode cJ0_length_8abf5 0 = .ok (.aload_n 0, 1) := by decide +kernel
theorem dJ0_length_8abf5_1 : decode cJ0_length_8abf5 1 = .ok (.getfield 9, 3) := by decide +kernel
theorem dJ0_length_8abf5_4 : decode cJ0_length_8abf5 4 = .ok (.arraylength, 1) := by decide +kernel
theorem dJ0_length_8abf5_5 : decode cJ0_length_8abf5 5 = .ok (.aload_n 0, 1) := by decide +kernel
theorem dJ0_length_8abf5_6 : decode cJ0_length_8abf5 6 = .ok (.invokevirtual 335, 3) := by decide +kernel
theorem dJ0_length_8abf5_9 : decode cJ0_length_8abf5 9 = .ok (.ishr, 1) := by decide +kernel
theorem dJ0_length_8abf5_10 : decode cJ0_length_8abf5 10 = .ok (.ireturn, 1) := by decide +kernel
theorem dJ0_charAt_5068e_0 : decode cJ0_charAt_5068e 0 = .ok (.aload_n 0, 1) := by decide +kernel
theorem dJ0_charAt_5068e_1 : decode cJ0_charAt_5068e 1 = .ok (.invokevirtual 492, 3) := by decide +kernel
theorem dJ0_charAt_5068e_4 : decode cJ0_charAt_5068e 4 = .ok (.ifCond .eq 12, 3) := by decide +kernel
theorem dJ0_charAt_5068e_7 : decode cJ0_charAt_5068e 7 = .ok (.aload_n 0, 1) := by decide +kernel
theorem dJ0_charAt_5068e_8 : decode cJ0_charAt_5068e 8 = .ok (.getfield 9, 3) := by decide +kernel
theorem dJ0_charAt_5068e_11 : decode cJ0_charAt_5068e 11 = .ok (.iload_n 1, 1) := by decide +kernel
theorem dJ0_charAt_5068e_12 : decode cJ0_charAt_5068e 12 = .ok (.invokestatic 495, 3) := by decide +kernel
theorem dJ0_charAt_5068e_15 : decode cJ0_charAt_5068e 15 = .ok (.ireturn, 1) := by decide +kernel
theorem dJ0_charAt_5068e_16 : decode cJ0_charAt_5068e 16 = .ok (.aload_n 0, 1) := by decide +kernel
theorem dJ0_charAt_5068e_17 : decode cJ0_charAt_5068e 17 = .ok (.getfield 9, 3) := by decide +kernel
theorem dJ0_charAt_5068e_20 : decode cJ0_charAt_5068e 20 = .ok (.iload_n 1, 1) := by decide +kernel
theorem dJ0_charAt_5068e_21 : decode cJ0_charAt_5068e 21 = .ok (.invokestatic 498, 3) := by decide +kernel
theorem dJ0_charAt_5068e_24 : decode cJ0_charAt_5068e 24 = .ok (.ireturn, 1) := by decide +kernel
theorem dJ0_coder_7d493_0 : decode cJ0_coder_7d493 0 = .ok (.getstatic 38, 3) := by decide +kernel
theorem dJ0_coder_7d493_3 : decode cJ0_coder_7d493 3 = .ok (.ifCond .eq 10, 3) := by decide +kernel
theorem dJ0_coder_7d493_6 : decode cJ0_coder_7d493 6 = .ok (.aload_n 0, 1) := by decide +kernel
theorem dJ0_coder_7d493_7 : decode cJ0_coder_7d493 7 = .ok (.getfield 15, 3) := by decide +kernel
theorem dJ0_coder_7d493_10 : decode cJ0_coder_7d493 10 = .ok (.goto 4, 3) := by decide +kernel
theorem dJ0_coder_7d493_13 : decode cJ0_coder_7d493 13 = .ok (.iconst 1, 1) := by decide +kernel
theorem dJ0_coder_7d493_14 : decode cJ0_coder_7d493 14 = .ok (.ireturn, 1) := by decide +kernel
theorem dJ0_isLatin1_aae02_0 : decode cJ0_isLatin1_aae02 0 = .ok (.getstatic 38, 3) := by decide +kernel
theorem dJ0_isLatin1_aae02_3 : decode cJ0_isLatin1_aae02 3 = .ok (.ifCond .eq 14, 3) := by decide +kernel
theorem dJ0_isLatin1_aae02_6 : decode cJ0_isLatin1_aae02 6 = .ok (.aload_n 0, 1) := by decide +kernel
theorem dJ0_isLatin1_aae02_7 : decode cJ0_isLatin1_aae02 7 = .ok (.getfield 15, 3) := by decide +kernel
theorem dJ0_isLatin1_aae02_10 : decode cJ0_isLatin1_aae02 10 = .ok (.ifCond .ne 7, 3) := by decide +kernel
theorem dJ0_isLatin1_aae02_13 : decode cJ0_isLatin1_aae02 13 = .ok (.iconst 1, 1) := by decide +kernel
theorem dJ0_isLatin1_aae02_14 : decode cJ0_isLatin1_aae02 14 = .ok (.goto 4, 3) := by decide +kernel
theorem dJ0_isLatin1_aae02_17 : decode cJ0_isLatin1_aae02 17 = .ok (.iconst 0, 1) := by decide +kernel
theorem dJ0_isLatin1_aae02_18 : decode cJ0_isLatin1_aae02 18 = .ok (.ireturn, 1) := by decide +kernel
theorem dJ0_checkIndex_df160_0 : decode cJ0_checkIndex_df160 0 = .ok (.iload_n 0, 1) := by decide +kernel
theorem dJ0_checkIndex_df160_1 : decode cJ0_checkIndex_df160 1 = .ok (.iload_n 1, 1) := by decide +kernel
theorem dJ0_checkIndex_df160_2 : decode cJ0_checkIndex_df160 2 = .ok (.getstatic 1053, 3) := by decide +kernel
theorem dJ0_checkIndex_df160_5 : decode cJ0_checkIndex_df160 5 = .ok (.invokestatic 1059, 3) := by decide +kernel
theorem dJ0_checkIndex_df160_8 : decode cJ0_checkIndex_df160 8 = .ok (.pop, 1) := by decide +kernel
theorem dJ0_checkIndex_df160_9 : decode cJ0_checkIndex_df160 9 = .ok (.return_, 1) := by decide +kernel
theorem dJ1_charAt_3b067_0 : decode cJ1_charAt_3b067 0 = .ok (.iload_n 1, 1) := by decide +kernel
theorem dJ1_charAt_3b067_1 : decode cJ1_charAt_3b067 1 = .ok (.aload_n 0, 1) := by decide +kernel
theorem dJ1_charAt_3b067_2 : decode cJ1_charAt_3b067 2 = .ok (.arraylength, 1) := by decide +kernel
theorem dJ1_charAt_3b067_3 : decode cJ1_charAt_3b067 3 = .ok (.invokestatic 9, 3) := by decide +kernel
theorem dJ1_charAt_3b067_6 : decode cJ1_charAt_3b067 6 = .ok (.aload_n 0, 1) := by decide +kernel
theorem dJ1_charAt_3b067_7 : decode cJ1_charAt_3b067 7 = .ok (.iload_n 1, 1) := by decide +kernel
theorem dJ1_charAt_3b067_8 : decode cJ1_charAt_3b067 8 = .ok (.baload, 1) := by decide +kernel
theorem dJ1_charAt_3b067_9 : decode cJ1_charAt_3b067 9 = .ok (.sipush 255, 3) := by decide +kernel
theorem dJ1_charAt_3b067_12 : decode cJ1_charAt_3b067 12 = .ok (.iand, 1) := by decide +kernel
theorem dJ1_charAt_3b067_13 : decode cJ1_charAt_3b067 13 = .ok (.i2c, 1) := by decide +kernel
theorem dJ1_charAt_3b067_14 : decode cJ1_charAt_3b067 14 = .ok (.ireturn, 1) := by decide +kernel
theorem dJ3_checkIndex_8e157_0 : decode cJ3_checkIndex_8e157 0 = .ok (.iload_n 0, 1) := by decide +kernel
theorem dJ3_checkIndex_8e157_1 : decode cJ3_checkIndex_8e157 1 = .ok (.ifCond .lt 8, 3) := by decide +kernel
theorem dJ3_checkIndex_8e157_4 : decode cJ3_checkIndex_8e157 4 = .ok (.iload_n 0, 1) := by decide +kernel
theorem dJ3_checkIndex_8e157_5 : decode cJ3_checkIndex_8e157 5 = .ok (.iload_n 1, 1) := by decide +kernel
theorem dJ3_checkIndex_8e157_6 : decode cJ3_checkIndex_8e157 6 = .ok (.if_icmp .lt 10, 3) := by decide +kernel
theorem dJ3_checkIndex_8e157_9 : decode cJ3_checkIndex_8e157 9 = .ok (.aload_n 2, 1) := by decide +kernel
theorem dJ3_checkIndex_8e157_10 : decode cJ3_checkIndex_8e157 10 = .ok (.iload_n 0, 1) := by decide +kernel
theorem dJ3_checkIndex_8e157_11 : decode cJ3_checkIndex_8e157 11 = .ok (.iload_n 1, 1) := by decide +kernel
theorem dJ3_checkIndex_8e157_12 : decode cJ3_checkIndex_8e157 12 = .ok (.invokestatic 95, 3) := by decide +kernel
theorem dJ3_checkIndex_8e157_15 : decode cJ3_checkIndex_8e157 15 = .ok (.athrow, 1) := by decide +kernel
theorem dJ3_checkIndex_8e157_16 : decode cJ3_checkIndex_8e157 16 = .ok (.iload_n 0, 1) := by decide +kernel
theorem dJ3_checkIndex_8e157_17 : decode cJ3_checkIndex_8e157 17 = .ok (.ireturn, 1) := by decide +kernel
theorem mi_J0_coder_7d493 : sx_MI yJ0_coder_7d493 cJ0_coder_7d493 1 ((some .byte)) 0 := ⟨by decide, ⟨by decide, by decide, by decide +kernel⟩, gw_386, gw_69⟩
theorem J0_coder_7d493_ck (l : Launch) {i : Nat} (hi : i < 6) (q : SQ) : CK shX vwCl KX tfX l yJ0_coder_7d493 cJ0_coder_7d493 1 ((some .byte)) 0 0 [.ref (1000 + i)] q (some (.int 0)) q := by
  refine CK.of mi_J0_coder_7d493 (Nat.le_of_ble_eq_true rfl) ?_
  show XX shX vwCl KX tfX l RJ0 cJ0_coder_7d493 1 ((some .byte)) { frames := 0, cells := 0, slots := 0, locals := 0 } (fun r q3 => r = (some (.int 0)) ∧ q3 = q) 0 [(0, .ref (1000 + i))] [] q
  refine sx_gets_CS dJ0_coder_7d493_0 gw_387 ?_
  refine sx_if_eq (tgt := 13) dJ0_coder_7d493_3 (by decide) (fun c9 => absurd c9 (by decide)) (fun c9 => ?_)
  refine sx_aload_n dJ0_coder_7d493_6 rfl rfl ?_
  refine sx_kcod dJ0_coder_7d493_7 hi gw_1133 ?_
  refine sx_goto (tgt := 14) dJ0_coder_7d493_10 (by decide) ?_
  exact sx_nret dJ0_coder_7d493_14 rfl rfl ⟨rfl, rfl⟩
theorem mi_J0_length_8abf5 : sx_MI yJ0_length_8abf5 cJ0_length_8abf5 1 ((some .int)) 0 := ⟨by decide, ⟨by decide, by decide, by decide +kernel⟩, gw_382, gw_69⟩
theorem J0_length_8abf5_ck (l : Launch) {i : Nat} (hi : i < 6) (q : SQ) : CK shX vwCl KX tfX l yJ0_length_8abf5 cJ0_length_8abf5 1 ((some .int)) 1 20 [.ref (1000 + i)] q (some (.int (nI (sx_stl i)))) q := by
  refine CK.of mi_J0_length_8abf5 (Nat.le_of_ble_eq_true rfl) ?_
  show XX shX vwCl KX tfX l RJ0 cJ0_length_8abf5 1 ((some .int)) { frames := 1, cells := 0, slots := 0, locals := 20 } (fun r q3 => r = (some (.int (nI (sx_stl i)))) ∧ q3 = q) 0 [(0, .ref (1000 + i))] [] q
  refine sx_aload_n dJ0_length_8abf5_0 rfl rfl ?_
  refine sx_kval dJ0_length_8abf5_1 hi gw_1132 ?_
  refine sx_kblen dJ0_length_8abf5_4 hi ?_
  refine sx_aload_n dJ0_length_8abf5_5 rfl rfl ?_
  refine sx_callVK (i := i) (As := []) (rest := [.int (nI (sx_stl i))]) KSX (J0_coder_7d493_ck l hi q) mi_J0_coder_7d493 gw_383 rfl ⟨gw_384, gw_385⟩ hi rfl ⟨Nat.le_of_ble_eq_true rfl, Nat.le_of_ble_eq_true rfl⟩ (Nat.le_of_ble_eq_true rfl) dJ0_length_8abf5_6 rfl ?_
  refine sx_ishr dJ0_length_8abf5_9 ?_
  exact sx_iret dJ0_length_8abf5_10 rfl ⟨by rw [sb_shr0], rfl⟩
theorem mi_J0_isLatin1_aae02 : sx_MI yJ0_isLatin1_aae02 cJ0_isLatin1_aae02 1 ((some .boolean)) 0 := ⟨by decide, ⟨by decide, by decide, by decide +kernel⟩, gw_396, gw_69⟩
theorem J0_isLatin1_aae02_ck (l : Launch) {i : Nat} (hi : i < 6) (q : SQ) : CK shX vwCl KX tfX l yJ0_isLatin1_aae02 cJ0_isLatin1_aae02 1 ((some .boolean)) 0 0 [.ref (1000 + i)] q (some (.int 1)) q := by
  refine CK.of mi_J0_isLatin1_aae02 (Nat.le_of_ble_eq_true rfl) ?_
  show XX shX vwCl KX tfX l RJ0 cJ0_isLatin1_aae02 1 ((some .boolean)) { frames := 0, cells := 0, slots := 0, locals := 0 } (fun r q3 => r = (some (.int 1)) ∧ q3 = q) 0 [(0, .ref (1000 + i))] [] q
  refine sx_gets_CS dJ0_isLatin1_aae02_0 gw_387 ?_
  refine sx_if_eq (tgt := 17) dJ0_isLatin1_aae02_3 (by decide) (fun c9 => absurd c9 (by decide)) (fun c9 => ?_)
  refine sx_aload_n dJ0_isLatin1_aae02_6 rfl rfl ?_
  refine sx_kcod dJ0_isLatin1_aae02_7 hi gw_1133 ?_
  refine sx_if_ne (tgt := 17) dJ0_isLatin1_aae02_10 (by decide) (fun c9 => absurd rfl c9) (fun c9 => ?_)
  refine sx_iconst (v := (1 : Int32)) dJ0_isLatin1_aae02_13 (by decide) ?_
  refine sx_goto (tgt := 18) dJ0_isLatin1_aae02_14 (by decide) ?_
  exact sx_nret dJ0_isLatin1_aae02_18 rfl rfl ⟨rfl, rfl⟩
theorem mi_J3_checkIndex_8e157 : sx_MI yJ3_checkIndex_8e157 cJ3_checkIndex_8e157 3 ((some .int)) 3 := ⟨by decide, ⟨by decide, by decide, by decide +kernel⟩, gw_407, gw_71⟩
theorem J3_checkIndex_8e157_ck (l : Launch) {j n : Int32} (h1 : ¬ j < 0) (h2 : j < n) (v : Value) (hv : v = .null ∨ v = .ref 1020) (q : SQ) : CK shX vwCl KX tfX l yJ3_checkIndex_8e157 cJ3_checkIndex_8e157 3 ((some .int)) 0 0 [.int j, .int n, v] q (some (.int j)) q := by
  refine CK.of mi_J3_checkIndex_8e157 (by rcases hv with rfl | rfl <;> exact Nat.le_of_ble_eq_true rfl) ?_
  show XX shX vwCl KX tfX l RJ3 cJ3_checkIndex_8e157 3 ((some .int)) { frames := 0, cells := 0, slots := 0, locals := 0 } (fun r q3 => r = (some (.int j)) ∧ q3 = q) 0 (lv_args 0 [.int j, .int n, v]) [] q
  refine sx_iload_n dJ3_checkIndex_8e157_0 rfl rfl ?_
  refine sx_if_lt (tgt := 9) dJ3_checkIndex_8e157_1 (by decide) (fun c9 => absurd c9 h1) (fun c9 => ?_)
  refine sx_iload_n dJ3_checkIndex_8e157_4 rfl rfl ?_
  refine sx_iload_n dJ3_checkIndex_8e157_5 rfl rfl ?_
  refine sx_icmp_lt (tgt := 16) dJ3_checkIndex_8e157_6 (by decide) (fun c9 => ?_) (fun c9 => absurd h2 c9)
  refine sx_iload_n dJ3_checkIndex_8e157_16 rfl rfl ?_
  exact sx_iret dJ3_checkIndex_8e157_17 rfl ⟨rfl, rfl⟩
theorem mi_J0_checkIndex_df160 : sx_MI yJ0_checkIndex_df160 cJ0_checkIndex_df160 2 (none) 2 := ⟨by decide, ⟨by decide, by decide, by decide +kernel⟩, gw_402, gw_69⟩
theorem J0_checkIndex_df160_ck (l : Launch) {j n : Int32} (h1 : ¬ j < 0) (h2 : j < n) (q : SQ) : CK shX vwCl KX tfX l yJ0_checkIndex_df160 cJ0_checkIndex_df160 2 (none) 1 22 [.int j, .int n] q none q := by
  refine CK.of mi_J0_checkIndex_df160 (Nat.le_of_ble_eq_true rfl) ?_
  show XX shX vwCl KX tfX l RJ0 cJ0_checkIndex_df160 2 (none) { frames := 1, cells := 0, slots := 0, locals := 22 } (fun r q3 => r = none ∧ q3 = q) 0 [(0, .int j), (1, .int n)] [] q
  refine sx_iload_n dJ0_checkIndex_df160_0 rfl rfl ?_
  refine sx_iload_n dJ0_checkIndex_df160_1 rfl rfl ?_
  refine sx_gets_SF dJ0_checkIndex_df160_2 gw_403 ?_ ?_
  · refine sx_callS (As := [.int j, .int n, .null]) (rest := []) KSX (J3_checkIndex_8e157_ck l h1 h2 .null (by simp) q) mi_J3_checkIndex_8e157 gw_405 rfl gw_406 ⟨Nat.le_of_ble_eq_true rfl, Nat.le_of_ble_eq_true rfl⟩ (Nat.le_of_ble_eq_true rfl) dJ0_checkIndex_df160_5 rfl ?_
    refine sx_pop dJ0_checkIndex_df160_8 rfl ?_
    exact sx_vret dJ0_checkIndex_df160_9 rfl ⟨rfl, rfl⟩
  · refine sx_callS (As := [.int j, .int n, .ref 1020]) (rest := []) KSX (J3_checkIndex_8e157_ck l h1 h2 (.ref 1020) (by simp) q) mi_J3_checkIndex_8e157 gw_405 rfl gw_406 ⟨Nat.le_of_ble_eq_true rfl, Nat.le_of_ble_eq_true rfl⟩ (Nat.le_of_ble_eq_true rfl) dJ0_checkIndex_df160_5 rfl ?_
    refine sx_pop dJ0_checkIndex_df160_8 rfl ?_
    exact sx_vret dJ0_checkIndex_df160_9 rfl ⟨rfl, rfl⟩
def sx_sch (i k : Nat) : Int32 := sx_sb i k &&& 255
theorem sx_slt : ∀ i, i < 6 → sx_stl i < 2 ^ 31 := by decide +kernel
theorem mi_J1_charAt_3b067 : sx_MI yJ1_charAt_3b067 cJ1_charAt_3b067 2 ((some .char)) 2 := ⟨by decide, ⟨by decide, by decide, by decide +kernel⟩, gw_399, gw_70⟩
theorem J1_charAt_3b067_ck (l : Launch) {i : Nat} (hi : i < 6) {j : Int32} (hj : vp_in j (sx_stl i)) (q : SQ) : CK shX vwCl KX tfX l yJ1_charAt_3b067 cJ1_charAt_3b067 2 ((some .char)) 2 43 [.ref (1100 + i), .int j] q (some (.int (sx_sch i j.toNatClampNeg))) q := by
  refine CK.of mi_J1_charAt_3b067 (Nat.le_of_ble_eq_true rfl) ?_
  show XX shX vwCl KX tfX l RJ1 cJ1_charAt_3b067 2 ((some .char)) { frames := 2, cells := 0, slots := 0, locals := 43 } (fun r q3 => r = (some (.int (sx_sch i j.toNatClampNeg))) ∧ q3 = q) 0 [(0, .ref (1100 + i)), (1, .int j)] [] q
  have h1 : ¬ j < 0 := fun z => hj (Or.inl z)
  have h2 : j < nI (sx_stl i) := by
    obtain ⟨k, hk, rfl⟩ := vp_in_of hj (sx_slt i hi)
    exact nI_lt hk (sx_slt i hi)
  refine sx_iload_n dJ1_charAt_3b067_0 rfl rfl ?_
  refine sx_aload_n dJ1_charAt_3b067_1 rfl rfl ?_
  refine sx_kblen dJ1_charAt_3b067_2 hi ?_
  refine sx_callS (As := [.int j, .int (nI (sx_stl i))]) (rest := []) KSX (J0_checkIndex_df160_ck l h1 h2 q) mi_J0_checkIndex_df160 gw_400 rfl gw_401 ⟨Nat.le_of_ble_eq_true rfl, Nat.le_of_ble_eq_true rfl⟩ (Nat.le_of_ble_eq_true rfl) dJ1_charAt_3b067_3 rfl ?_
  refine sx_aload_n dJ1_charAt_3b067_6 rfl rfl ?_
  refine sx_iload_n dJ1_charAt_3b067_7 rfl rfl ?_
  refine sx_kbald dJ1_charAt_3b067_8 hi hj ?_
  refine sx_sipush (v := (255 : Int32)) dJ1_charAt_3b067_9 (by decide) ?_
  refine sx_iand dJ1_charAt_3b067_12 ?_
  refine sx_i2c dJ1_charAt_3b067_13 ?_
  have e : ((sx_sb i j.toNatClampNeg &&& 255).toUInt32 % 65536).toInt32 = sx_sch i j.toNatClampNeg := sc_c2 _
  rw [e]
  exact sx_nret dJ1_charAt_3b067_14 rfl (sc_nar _) ⟨rfl, rfl⟩
theorem mi_J0_charAt_5068e : sx_MI yJ0_charAt_5068e cJ0_charAt_5068e 2 ((some .char)) 1 := ⟨by decide, ⟨by decide, by decide, by decide +kernel⟩, gw_392, gw_69⟩
theorem J0_charAt_5068e_ck (l : Launch) {i : Nat} (hi : i < 6) {j : Int32} (hj : vp_in j (sx_stl i)) (q : SQ) : CK shX vwCl KX tfX l yJ0_charAt_5068e cJ0_charAt_5068e 2 ((some .char)) 3 64 [.ref (1000 + i), .int j] q (some (.int (sx_sch i j.toNatClampNeg))) q := by
  refine CK.of mi_J0_charAt_5068e (Nat.le_of_ble_eq_true rfl) ?_
  show XX shX vwCl KX tfX l RJ0 cJ0_charAt_5068e 2 ((some .char)) { frames := 3, cells := 0, slots := 0, locals := 64 } (fun r q3 => r = (some (.int (sx_sch i j.toNatClampNeg))) ∧ q3 = q) 0 [(0, .ref (1000 + i)), (1, .int j)] [] q
  refine sx_aload_n dJ0_charAt_5068e_0 rfl rfl ?_
  refine sx_callVK (i := i) (As := []) (rest := []) KSX (J0_isLatin1_aae02_ck l hi q) mi_J0_isLatin1_aae02 gw_393 rfl ⟨gw_394, gw_395⟩ hi rfl ⟨Nat.le_of_ble_eq_true rfl, Nat.le_of_ble_eq_true rfl⟩ (Nat.le_of_ble_eq_true rfl) dJ0_charAt_5068e_1 rfl ?_
  refine sx_if_eq (tgt := 16) dJ0_charAt_5068e_4 (by decide) (fun c9 => absurd c9 (by decide)) (fun c9 => ?_)
  refine sx_aload_n dJ0_charAt_5068e_7 rfl rfl ?_
  refine sx_kval dJ0_charAt_5068e_8 hi gw_1132 ?_
  refine sx_iload_n dJ0_charAt_5068e_11 rfl rfl ?_
  refine sx_callS (As := [.ref (1100 + i), .int j]) (rest := []) KSX (J1_charAt_3b067_ck l hi hj q) mi_J1_charAt_3b067 gw_397 rfl gw_398 ⟨Nat.le_of_ble_eq_true rfl, Nat.le_of_ble_eq_true rfl⟩ (Nat.le_of_ble_eq_true rfl) dJ0_charAt_5068e_12 rfl ?_
  exact sx_nret dJ0_charAt_5068e_15 rfl (sc_nar _) ⟨rfl, rfl⟩
theorem sx_strlen {l : Launch} {own : String} {cc : ByteArray} {nL : Nat} {ret : Option FieldType} {R : Room} {Q : Option Value → SQ → Prop} {pc : Nat} {ls : List (Nat × Value)} {st : List Value} {q : SQ} {n i : Nat} (d : decode cc pc = .ok (.invokevirtual n, 3)) (hi : i < 6) (hln : Cond.methodLink own n yJ0_length_8abf5 ∈ GG) (hR : 2 ≤ R.frames ∧ 40 ≤ R.locals) (hcat : (st.map fun v => v.category).sum ≤ 8) (k : XX shX vwCl KX tfX l own cc nL ret R Q (pc + 3) ls (.int (nI (sx_stl i)) :: st) q) : XX shX vwCl KX tfX l own cc nL ret R Q pc ls (.ref (1000 + i) :: st) q :=
  sx_callVK (i := i) (As := []) (rest := st) KSX (J0_length_8abf5_ck l hi q) mi_J0_length_8abf5 hln rfl ⟨gw_380, gw_381⟩ hi rfl hR hcat d rfl k
theorem sx_strchar {l : Launch} {own : String} {cc : ByteArray} {nL : Nat} {ret : Option FieldType} {R : Room} {Q : Option Value → SQ → Prop} {pc : Nat} {ls : List (Nat × Value)} {st : List Value} {q : SQ} {n i : Nat} {j : Int32} (d : decode cc pc = .ok (.invokevirtual n, 3)) (hi : i < 6) (hln : Cond.methodLink own n yJ0_charAt_5068e ∈ GG) (hj : vp_in j (sx_stl i)) (hR : 4 ≤ R.frames ∧ 85 ≤ R.locals) (hcat : (st.map fun v => v.category).sum ≤ 8) (k : XX shX vwCl KX tfX l own cc nL ret R Q (pc + 3) ls (.int (sx_sch i j.toNatClampNeg) :: st) q) : XX shX vwCl KX tfX l own cc nL ret R Q pc ls (.int j :: .ref (1000 + i) :: st) q :=
  sx_callVK (i := i) (As := [.int j]) (rest := st) KSX (J0_charAt_5068e_ck l hi hj q) mi_J0_charAt_5068e hln rfl ⟨gw_390, gw_391⟩ hi rfl hR hcat d rfl k
