/-! the small constructors (printed by inits.py) -/
theorem mi_X0_init : yMI yX0_init cX0_init := ⟨by decide, ⟨by decide, by decide, by decide +kernel⟩, rfl, gw_183, gw_63, gw_182⟩
theorem fs0_X0 : ∀ j, j < 5 → defaultValue (tyX0 j) = vp_V [.int 0, .int 0, .null, .null, .null] j := fun j hj => by
  rcases (show j = 0 ∨ j = 1 ∨ j = 2 ∨ j = 3 ∨ j = 4 by omega) with rfl | rfl | rfl | rfl | rfl <;> rfl
def shI_X0 : List sx_H := [.inr (0, [.inr false, .inr false, .inl 1, .inl 2, .inl 3]), .inl (false, 8), .inl (false, 8), .inl (false, 8)]
set_option maxRecDepth 20000 in
theorem ic_X0 (l : Launch) : IC l yX0_init cX0_init 1 12 3 24 0 [.int 0, .int 0, .null, .null, .null] shI_X0 := by
  refine IC.of mi_X0_init (fun p e s m args below meth c D cI cZ A lsC h0 B => ?_)
  refine y_start (pc := 0) B gw_184 gw_80 gw_81 dX0_init_0 dX0_init_1 ⟨Nat.le_of_ble_eq_true rfl, Nat.le_of_ble_eq_true rfl⟩ ?_
  refine y_arr (pc := 4) (cells := 0) (slots := 0) (k := 2) (N := 5) (v := 8) B gw_146 cb_X0 ⟨by decide, rfl, gw_189⟩ rfl rfl dX0_init_4 (Or.inr (Or.inl ⟨8, dX0_init_5, by decide, rfl⟩)) dX0_init_7 dX0_init_9 (by decide) (by decide : (8 : Int32).toNatClampNeg = 8) (by omega) ⟨Nat.le_of_ble_eq_true rfl, Nat.le_of_ble_eq_true rfl⟩ (fun a1 => ?_)
  refine y_arr (pc := 12) (cells := 1) (slots := 8) (k := 3) (N := 5) (v := 8) B gw_146 cb_X0 ⟨by decide, rfl, gw_191⟩ rfl rfl dX0_init_12 (Or.inr (Or.inl ⟨8, dX0_init_13, by decide, rfl⟩)) dX0_init_15 dX0_init_17 (by decide) (by decide : (8 : Int32).toNatClampNeg = 8) (by omega) ⟨Nat.le_of_ble_eq_true rfl, Nat.le_of_ble_eq_true rfl⟩ (fun a2 => ?_)
  refine y_arr (pc := 20) (cells := 2) (slots := 16) (k := 4) (N := 5) (v := 8) B gw_146 cb_X0 ⟨by decide, rfl, gw_193⟩ rfl rfl dX0_init_20 (Or.inr (Or.inl ⟨8, dX0_init_21, by decide, rfl⟩)) dX0_init_23 dX0_init_25 (by decide) (by decide : (8 : Int32).toNatClampNeg = 8) (by omega) ⟨Nat.le_of_ble_eq_true rfl, Nat.le_of_ble_eq_true rfl⟩ (fun a3 => ?_)
  exact y_ret (pc := 28) (fun k => [h0, a1, a2, a3].getD k 0) B dX0_init_28 rfl rfl ⟨rfl, rfl⟩
theorem mi_X2_init : yMI yX2_init cX2_init := ⟨by decide, ⟨by decide, by decide, by decide +kernel⟩, rfl, gw_248, gw_66, gw_247⟩
theorem fs0_X2 : ∀ j, j < 5 → defaultValue (tyX2 j) = vp_V [.int 0, .int 0, .null, .null, .null] j := fun j hj => by
  rcases (show j = 0 ∨ j = 1 ∨ j = 2 ∨ j = 3 ∨ j = 4 by omega) with rfl | rfl | rfl | rfl | rfl <;> rfl
def shI_X2 : List sx_H := [.inr (2, [.inr false, .inr false, .inl 1, .inl 2, .inl 3]), .inl (false, 8), .inl (false, 8), .inl (false, 8)]
set_option maxRecDepth 20000 in
theorem ic_X2 (l : Launch) : IC l yX2_init cX2_init 1 12 3 24 2 [.int 0, .int 0, .null, .null, .null] shI_X2 := by
  refine IC.of mi_X2_init (fun p e s m args below meth c D cI cZ A lsC h0 B => ?_)
  refine y_start (pc := 0) B gw_249 gw_80 gw_81 dX2_init_0 dX2_init_1 ⟨Nat.le_of_ble_eq_true rfl, Nat.le_of_ble_eq_true rfl⟩ ?_
  refine y_arr (pc := 4) (cells := 0) (slots := 0) (k := 2) (N := 5) (v := 8) B gw_146 cb_X2 ⟨by decide, rfl, gw_254⟩ rfl rfl dX2_init_4 (Or.inr (Or.inl ⟨8, dX2_init_5, by decide, rfl⟩)) dX2_init_7 dX2_init_9 (by decide) (by decide : (8 : Int32).toNatClampNeg = 8) (by omega) ⟨Nat.le_of_ble_eq_true rfl, Nat.le_of_ble_eq_true rfl⟩ (fun a1 => ?_)
  refine y_arr (pc := 12) (cells := 1) (slots := 8) (k := 3) (N := 5) (v := 8) B gw_146 cb_X2 ⟨by decide, rfl, gw_256⟩ rfl rfl dX2_init_12 (Or.inr (Or.inl ⟨8, dX2_init_13, by decide, rfl⟩)) dX2_init_15 dX2_init_17 (by decide) (by decide : (8 : Int32).toNatClampNeg = 8) (by omega) ⟨Nat.le_of_ble_eq_true rfl, Nat.le_of_ble_eq_true rfl⟩ (fun a2 => ?_)
  refine y_arr (pc := 20) (cells := 2) (slots := 16) (k := 4) (N := 5) (v := 8) B gw_146 cb_X2 ⟨by decide, rfl, gw_258⟩ rfl rfl dX2_init_20 (Or.inr (Or.inl ⟨8, dX2_init_21, by decide, rfl⟩)) dX2_init_23 dX2_init_25 (by decide) (by decide : (8 : Int32).toNatClampNeg = 8) (by omega) ⟨Nat.le_of_ble_eq_true rfl, Nat.le_of_ble_eq_true rfl⟩ (fun a3 => ?_)
  exact y_ret (pc := 28) (fun k => [h0, a1, a2, a3].getD k 0) B dX2_init_28 rfl rfl ⟨rfl, rfl⟩
theorem mi_X5_init : yMI yX5_init cX5_init := ⟨by decide, ⟨by decide, by decide, by decide +kernel⟩, rfl, gw_231, gw_65, gw_230⟩
theorem fs0_X5 : ∀ j, j < 3 → defaultValue (tyX5 j) = vp_V [.int 0, .null, .null] j := fun j hj => by
  rcases (show j = 0 ∨ j = 1 ∨ j = 2 by omega) with rfl | rfl | rfl <;> rfl
def shI_X5 : List sx_H := [.inr (5, [.inr false, .inl 1, .inl 2]), .inl (false, 30), .inl (false, 30)]
set_option maxRecDepth 20000 in
theorem ic_X5 (l : Launch) : IC l yX5_init cX5_init 1 12 2 60 5 [.int 0, .null, .null] shI_X5 := by
  refine IC.of mi_X5_init (fun p e s m args below meth c D cI cZ A lsC h0 B => ?_)
  refine y_start (pc := 0) B gw_232 gw_80 gw_81 dX5_init_0 dX5_init_1 ⟨Nat.le_of_ble_eq_true rfl, Nat.le_of_ble_eq_true rfl⟩ ?_
  refine y_int (pc := 4) (cells := 0) (slots := 0) (k := 0) (N := 3) (v := 0) B cb_X5 ⟨by decide, rfl, gw_233⟩ rfl rfl rfl rfl dX5_init_4 (Or.inl ⟨0, dX5_init_5, by decide, rfl⟩) dX5_init_6 ?_
  refine y_arr (pc := 9) (cells := 0) (slots := 0) (k := 1) (N := 3) (v := 30) B gw_146 cb_X5 ⟨by decide, rfl, gw_235⟩ rfl rfl dX5_init_9 (Or.inr (Or.inl ⟨30, dX5_init_10, by decide, rfl⟩)) dX5_init_12 dX5_init_14 (by decide) (by decide : (30 : Int32).toNatClampNeg = 30) (by omega) ⟨Nat.le_of_ble_eq_true rfl, Nat.le_of_ble_eq_true rfl⟩ (fun a1 => ?_)
  refine y_arr (pc := 17) (cells := 1) (slots := 30) (k := 2) (N := 3) (v := 30) B gw_146 cb_X5 ⟨by decide, rfl, gw_236⟩ rfl rfl dX5_init_17 (Or.inr (Or.inl ⟨30, dX5_init_18, by decide, rfl⟩)) dX5_init_20 dX5_init_22 (by decide) (by decide : (30 : Int32).toNatClampNeg = 30) (by omega) ⟨Nat.le_of_ble_eq_true rfl, Nat.le_of_ble_eq_true rfl⟩ (fun a2 => ?_)
  exact y_ret (pc := 25) (fun k => [h0, a1, a2].getD k 0) B dX5_init_25 rfl rfl ⟨rfl, rfl⟩
theorem mi_X4_init : yMI yX4_init cX4_init := ⟨by decide, ⟨by decide, by decide, by decide +kernel⟩, rfl, gw_86, gw_61, gw_85⟩
theorem fs0_X4 : ∀ j, j < 12 → defaultValue (tyX4 j) = vp_V [.int 0, .int 0, .null, .null, .null, .null, .null, .null, .int 0, .int 0, .int 0, .int 0] j := fun j hj => by
  rcases (show j = 0 ∨ j = 1 ∨ j = 2 ∨ j = 3 ∨ j = 4 ∨ j = 5 ∨ j = 6 ∨ j = 7 ∨ j = 8 ∨ j = 9 ∨ j = 10 ∨ j = 11 by omega) with rfl | rfl | rfl | rfl | rfl | rfl | rfl | rfl | rfl | rfl | rfl | rfl <;> rfl
def shI_X4 : List sx_H := [.inr (4, [.inr false, .inr false, .inl 1, .inl 2, .inl 3, .inl 4, .inl 5, .inl 6, .inr false, .inr false, .inr false, .inr false]), .inl (false, 8), .inl (false, 8), .inl (false, 8), .inl (false, 4), .inl (false, 4), .inl (false, 4)]
set_option maxRecDepth 20000 in
theorem ic_X4 (l : Launch) : IC l yX4_init cX4_init 1 12 6 36 4 [.int 0, .int 0, .null, .null, .null, .null, .null, .null, .int 0, .int 0, .int 0, .int 0] shI_X4 := by
  refine IC.of mi_X4_init (fun p e s m args below meth c D cI cZ A lsC h0 B => ?_)
  refine y_start (pc := 0) B gw_87 gw_80 gw_81 dX4_init_0 dX4_init_1 ⟨Nat.le_of_ble_eq_true rfl, Nat.le_of_ble_eq_true rfl⟩ ?_
  refine y_arr (pc := 4) (cells := 0) (slots := 0) (k := 2) (N := 12) (v := 8) B gw_146 cb_X4 ⟨by decide, rfl, gw_96⟩ rfl rfl dX4_init_4 (Or.inr (Or.inl ⟨8, dX4_init_5, by decide, rfl⟩)) dX4_init_7 dX4_init_9 (by decide) (by decide : (8 : Int32).toNatClampNeg = 8) (by omega) ⟨Nat.le_of_ble_eq_true rfl, Nat.le_of_ble_eq_true rfl⟩ (fun a1 => ?_)
  refine y_arr (pc := 12) (cells := 1) (slots := 8) (k := 3) (N := 12) (v := 8) B gw_146 cb_X4 ⟨by decide, rfl, gw_99⟩ rfl rfl dX4_init_12 (Or.inr (Or.inl ⟨8, dX4_init_13, by decide, rfl⟩)) dX4_init_15 dX4_init_17 (by decide) (by decide : (8 : Int32).toNatClampNeg = 8) (by omega) ⟨Nat.le_of_ble_eq_true rfl, Nat.le_of_ble_eq_true rfl⟩ (fun a2 => ?_)
  refine y_arr (pc := 20) (cells := 2) (slots := 16) (k := 4) (N := 12) (v := 8) B gw_146 cb_X4 ⟨by decide, rfl, gw_101⟩ rfl rfl dX4_init_20 (Or.inr (Or.inl ⟨8, dX4_init_21, by decide, rfl⟩)) dX4_init_23 dX4_init_25 (by decide) (by decide : (8 : Int32).toNatClampNeg = 8) (by omega) ⟨Nat.le_of_ble_eq_true rfl, Nat.le_of_ble_eq_true rfl⟩ (fun a3 => ?_)
  refine y_arr (pc := 28) (cells := 3) (slots := 24) (k := 5) (N := 12) (v := 4) B gw_146 cb_X4 ⟨by decide, rfl, gw_104⟩ rfl rfl dX4_init_28 (Or.inl ⟨4, dX4_init_29, by decide, rfl⟩) dX4_init_30 dX4_init_32 (by decide) (by decide : (4 : Int32).toNatClampNeg = 4) (by omega) ⟨Nat.le_of_ble_eq_true rfl, Nat.le_of_ble_eq_true rfl⟩ (fun a4 => ?_)
  refine y_arr (pc := 35) (cells := 4) (slots := 28) (k := 6) (N := 12) (v := 4) B gw_146 cb_X4 ⟨by decide, rfl, gw_106⟩ rfl rfl dX4_init_35 (Or.inl ⟨4, dX4_init_36, by decide, rfl⟩) dX4_init_37 dX4_init_39 (by decide) (by decide : (4 : Int32).toNatClampNeg = 4) (by omega) ⟨Nat.le_of_ble_eq_true rfl, Nat.le_of_ble_eq_true rfl⟩ (fun a5 => ?_)
  refine y_arr (pc := 42) (cells := 5) (slots := 32) (k := 7) (N := 12) (v := 4) B gw_146 cb_X4 ⟨by decide, rfl, gw_109⟩ rfl rfl dX4_init_42 (Or.inl ⟨4, dX4_init_43, by decide, rfl⟩) dX4_init_44 dX4_init_46 (by decide) (by decide : (4 : Int32).toNatClampNeg = 4) (by omega) ⟨Nat.le_of_ble_eq_true rfl, Nat.le_of_ble_eq_true rfl⟩ (fun a6 => ?_)
  exact y_ret (pc := 49) (fun k => [h0, a1, a2, a3, a4, a5, a6].getD k 0) B dX4_init_49 rfl rfl ⟨rfl, rfl⟩
theorem mi_X1_init : yMI yX1_init cX1_init := ⟨by decide, ⟨by decide, by decide, by decide +kernel⟩, rfl, gw_210, gw_64, gw_209⟩
theorem fs0_X1 : ∀ j, j < 3 → defaultValue (tyX1 j) = vp_V [.int 0, .int 0, .null] j := fun j hj => by
  rcases (show j = 0 ∨ j = 1 ∨ j = 2 by omega) with rfl | rfl | rfl <;> rfl
def shI_X1 : List sx_H := [.inr (1, [.inr false, .inr false, .inl 1]), .inr (0, [.inr false, .inr false, .inl 2, .inl 3, .inl 4]), .inl (false, 8), .inl (false, 8), .inl (false, 8)]
set_option maxRecDepth 20000 in
theorem ic_X1 (l : Launch) : IC l yX1_init cX1_init 2 32 4 29 1 [.int 0, .int 0, .null] shI_X1 := by
  refine IC.of mi_X1_init (fun p e s m args below meth c D cI cZ A lsC h0 B => ?_)
  refine y_start (pc := 0) B gw_211 gw_80 gw_81 dX1_init_0 dX1_init_1 ⟨Nat.le_of_ble_eq_true rfl, Nat.le_of_ble_eq_true rfl⟩ ?_
  refine y_int (pc := 4) (cells := 0) (slots := 0) (k := 0) (N := 3) (v := 0) B cb_X1 ⟨by decide, rfl, gw_214⟩ rfl rfl rfl rfl dX1_init_4 (Or.inl ⟨0, dX1_init_5, by decide, rfl⟩) dX1_init_6 ?_
  refine y_int (pc := 9) (cells := 0) (slots := 0) (k := 1) (N := 3) (v := 0) B cb_X1 ⟨by decide, rfl, gw_216⟩ rfl rfl rfl rfl dX1_init_9 (Or.inl ⟨0, dX1_init_10, by decide, rfl⟩) dX1_init_11 ?_
  refine y_new (pc := 14) (cells := 0) (slots := 0) (k := 2) (N := 3) B (ic_X0 l) mi_X0_init rfl cb_X0 fs0_X0 gw_212 gw_180 (List.mem_of_getElem? (i := 5) rfl) cb_X1 ⟨by decide, rfl, gw_218⟩ rfl rfl dX1_init_14 dX1_init_15 dX1_init_18 dX1_init_19 dX1_init_22 ⟨Nat.le_of_ble_eq_true rfl, Nat.le_of_ble_eq_true rfl⟩ ⟨Nat.le_of_ble_eq_true rfl, Nat.le_of_ble_eq_true rfl⟩ (fun ad1 => ?_)
  exact y_ret (pc := 25) (fun k => [h0, ad1 0, ad1 1, ad1 2, ad1 3].getD k 0) B dX1_init_25 rfl rfl ⟨rfl, rfl⟩
theorem mi_X3_init : yMI yX3_init cX3_init := ⟨by decide, ⟨by decide, by decide, by decide +kernel⟩, rfl, gw_151, gw_62, gw_150⟩
theorem fs0_X3 : ∀ j, j < 7 → defaultValue (tyX3 j) = vp_V [.int 0, .null, .null, .null, .null, .int 0, .int 0] j := fun j hj => by
  rcases (show j = 0 ∨ j = 1 ∨ j = 2 ∨ j = 3 ∨ j = 4 ∨ j = 5 ∨ j = 6 by omega) with rfl | rfl | rfl | rfl | rfl | rfl | rfl <;> rfl
def shI_X3 : List sx_H := [.inr (3, [.inr false, .inl 1, .inl 2, .inl 9, .inl 10, .inr false, .inr false]), .inl (false, 400), .inr (4, [.inr false, .inr false, .inl 3, .inl 4, .inl 5, .inl 6, .inl 7, .inl 8, .inr false, .inr false, .inr false, .inr false]), .inl (false, 8), .inl (false, 8), .inl (false, 8), .inl (false, 4), .inl (false, 4), .inl (false, 4), .inl (false, 401), .inl (false, 401)]
set_option maxRecDepth 20000 in
theorem ic_X3 (l : Launch) : IC l yX3_init cX3_init 2 32 10 1250 3 [.int 0, .null, .null, .null, .null, .int 0, .int 0] shI_X3 := by
  refine IC.of mi_X3_init (fun p e s m args below meth c D cI cZ A lsC h0 B => ?_)
  refine y_start (pc := 0) B gw_152 gw_80 gw_81 dX3_init_0 dX3_init_1 ⟨Nat.le_of_ble_eq_true rfl, Nat.le_of_ble_eq_true rfl⟩ ?_
  refine y_int (pc := 4) (cells := 0) (slots := 0) (k := 0) (N := 7) (v := 0) B cb_X3 ⟨by decide, rfl, gw_155⟩ rfl rfl rfl rfl dX3_init_4 (Or.inl ⟨0, dX3_init_5, by decide, rfl⟩) dX3_init_6 ?_
  refine y_arr (pc := 9) (cells := 0) (slots := 0) (k := 1) (N := 7) (v := 400) B gw_146 cb_X3 ⟨by decide, rfl, gw_157⟩ rfl rfl dX3_init_9 (Or.inr (Or.inr ⟨400, dX3_init_10, by decide, rfl⟩)) dX3_init_13 dX3_init_15 (by decide) (by decide : (400 : Int32).toNatClampNeg = 400) (by omega) ⟨Nat.le_of_ble_eq_true rfl, Nat.le_of_ble_eq_true rfl⟩ (fun a1 => ?_)
  refine y_new (pc := 18) (cells := 1) (slots := 400) (k := 2) (N := 7) B (ic_X4 l) mi_X4_init rfl cb_X4 fs0_X4 gw_153 gw_83 (List.mem_of_getElem? (i := 2) rfl) cb_X3 ⟨by decide, rfl, gw_158⟩ rfl rfl dX3_init_18 dX3_init_19 dX3_init_22 dX3_init_23 dX3_init_26 ⟨Nat.le_of_ble_eq_true rfl, Nat.le_of_ble_eq_true rfl⟩ ⟨Nat.le_of_ble_eq_true rfl, Nat.le_of_ble_eq_true rfl⟩ (fun ad2 => ?_)
  refine y_arr (pc := 29) (cells := 8) (slots := 448) (k := 3) (N := 7) (v := 401) B gw_146 cb_X3 ⟨by decide, rfl, gw_160⟩ rfl rfl dX3_init_29 (Or.inr (Or.inr ⟨401, dX3_init_30, by decide, rfl⟩)) dX3_init_33 dX3_init_35 (by decide) (by decide : (401 : Int32).toNatClampNeg = 401) (by omega) ⟨Nat.le_of_ble_eq_true rfl, Nat.le_of_ble_eq_true rfl⟩ (fun a3 => ?_)
  refine y_arr (pc := 38) (cells := 9) (slots := 849) (k := 4) (N := 7) (v := 401) B gw_146 cb_X3 ⟨by decide, rfl, gw_161⟩ rfl rfl dX3_init_38 (Or.inr (Or.inr ⟨401, dX3_init_39, by decide, rfl⟩)) dX3_init_42 dX3_init_44 (by decide) (by decide : (401 : Int32).toNatClampNeg = 401) (by omega) ⟨Nat.le_of_ble_eq_true rfl, Nat.le_of_ble_eq_true rfl⟩ (fun a4 => ?_)
  exact y_ret (pc := 47) (fun k => [h0, a1, ad2 0, ad2 1, ad2 2, ad2 3, ad2 4, ad2 5, ad2 6, a3, a4].getD k 0) B dX3_init_47 rfl rfl ⟨rfl, rfl⟩
