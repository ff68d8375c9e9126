theorem gg_in2 {w : Cond} (h : w ∈ lw_tbl) (g : goodWord w = true) : w ∈ GG := List.mem_filter.mpr ⟨h, g⟩
theorem gd_X0 : ∀ w ∈ wsX00, goodWord w = true := by decide +kernel
theorem inX0 : ∀ w ∈ wsX00, w ∈ lw_tbl := by decide +kernel
theorem gd_X1 : ∀ w ∈ wsX10, goodWord w = true := by decide +kernel
theorem inX1 : ∀ w ∈ wsX10, w ∈ lw_tbl := by decide +kernel
theorem gd_X2 : ∀ w ∈ wsX20, goodWord w = true := by decide +kernel
theorem inX2 : ∀ w ∈ wsX20, w ∈ lw_tbl := by decide +kernel
theorem gd_X3 : ∀ w ∈ wsX30, goodWord w = true := by decide +kernel
theorem inX3 : ∀ w ∈ wsX30, w ∈ lw_tbl := by decide +kernel
theorem gd_X4 : ∀ w ∈ wsX40, goodWord w = true := by decide +kernel
theorem inX4 : ∀ w ∈ wsX40, w ∈ lw_tbl := by decide +kernel
theorem gd_X5 : ∀ w ∈ wsX50, goodWord w = true := by decide +kernel
theorem inX5 : ∀ w ∈ wsX50, w ∈ lw_tbl := by decide +kernel
theorem gd_X6 : ∀ w ∈ wsX60, goodWord w = true := by decide +kernel
theorem inX6 : ∀ w ∈ wsX60, w ∈ lw_tbl := by decide +kernel
theorem gd_X7 : ∀ w ∈ wsX70, goodWord w = true := by decide +kernel
theorem inX7 : ∀ w ∈ wsX70, w ∈ lw_tbl := by decide +kernel
def sx_si (i : Nat) : Nat := [74, 80, 82, 84, 86, 88].getD i 0
def sx_tx (i : Nat) : String := ["child", "book", "plan", "after", "thin", "pay"].getD i ""
def sx_ln : List Nat := [5, 4, 4, 5, 4, 3]
def sx_by : List (List Int32) := [[99, 104, 105, 108, 100], [98, 111, 111, 107], [112, 108, 97, 110], [97, 102, 116, 101, 114], [116, 104, 105, 110], [112, 97, 121]]
def sx_stl (i : Nat) : Nat := sx_ln.getD i 0
def sx_sb (i j : Nat) : Int32 := (sx_by.getD i []).getD j 0
def tFirst (j : Nat) : Int32 := [10, 1, 6, 2, 3, 1].getD j 0
def tMost (j : Nat) : Int32 := [99, 9, 20, 9, 20, 9].getD j 0
def tWith (j : Nat) : Int32 := [170, 204, 240].getD j 0
def sx_nests : List Cond := [Cond.methodLinkNest "StarChart" 9 ⟨"StarChart$Sheet","<init>","()V"⟩ "StarChart", Cond.methodLinkNest "StarChart" 18 ⟨"StarChart$Reader","<init>","()V"⟩ "StarChart", Cond.methodLinkNest "StarChart$Reader" 21 ⟨"StarChart$Sheet","<init>","()V"⟩ "StarChart", Cond.methodLinkNest "StarChart" 25 ⟨"StarChart$Course","<init>","()V"⟩ "StarChart", Cond.methodLinkNest "StarChart" 36 ⟨"StarChart$Image","<init>","()V"⟩ "StarChart", Cond.methodLinkNest "StarChart$Image" 19 ⟨"StarChart$Course","<init>","()V"⟩ "StarChart", Cond.methodLinkNest "StarChart" 46 ⟨"StarChart$Trials","<init>","()V"⟩ "StarChart", Cond.methodLinkNest "StarChart" 53 ⟨"StarChart$Jar","<init>","()V"⟩ "StarChart", Cond.methodLinkNest "StarChart$Reader" 98 ⟨"StarChart","within","(III)Z"⟩ "StarChart"]
/-- what the class's world stands on: texts, static arrays, statics of the JDK, nest links -/
def KX (ad : Nat → Nat) (A : Nat → Prop) (U : State) (H : Heap) : Prop :=
  vk_S 6 sx_ln sx_by (fun i => ad (1000 + i)) (fun i => ad (1100 + i)) A U H ∧
  (∀ i : Nat, i < 6 → vk_R "StarChart$Reader" (sx_si i) (sx_tx i) (ad (1000 + i)) U) ∧
  (va_Z "StarChart" "TUNE_MOST" "[I" (.ref (ad 1010)) A U H ∧ va_T .int (ad 1010) 6 (fun j => .int (tMost j)) A U H) ∧
  (va_Z "StarChart$Trials" "SORTS_WITH" "[I" (.ref (ad 1011)) A U H ∧ va_T .int (ad 1011) 3 (fun j => .int (tWith j)) A U H) ∧
  (va_Z "StarChart" "TUNE_FIRST" "[I" (.ref (ad 1012)) A U H ∧ va_T .int (ad 1012) 6 (fun j => .int (tFirst j)) A U H) ∧
  va_Z "java/lang/String" "COMPACT_STRINGS" "Z" (.int 1) A U H ∧
  (va_Z "jdk/internal/util/Preconditions" "SIOOBE_FORMATTER" "Ljava/util/function/BiFunction;" .null A U H ∨ va_Z "jdk/internal/util/Preconditions" "SIOOBE_FORMATTER" "Ljava/util/function/BiFunction;" (.ref (ad 1020)) A U H) ∧
  (∀ w ∈ sx_nests, va_Nw w U)
def KM (_ : Nat → Nat) (_ : Nat → Prop) (_ : State) (_ : Heap) : Prop := True
theorem KSM : sx_KS KM := ⟨fun _ _ _ _ _ _ h => h, fun _ _ _ _ _ h _ => h, fun _ _ _ _ _ _ h => h⟩
theorem sx_nestW {s U : State} (hW : s.WarmedH U.vm) {w : Cond} (hw : w ∈ sx_nests) (h : va_Nw w s) : va_Nw w U := by
  simp only [sx_nests, List.mem_cons, List.not_mem_nil, or_false] at hw
  rcases hw with rfl | rfl | rfl | rfl | rfl | rfl | rfl | rfl | rfl <;> exact va_Nw.warmM hW h
theorem KSX : sx_KS KX := by
  refine ⟨fun ad A u U H hW h => ?_, fun ad A U H H1 h hq => ?_, fun ad A B U H hAB h => ?_⟩
  · obtain ⟨h1, h2, h3, h4, h5, h6, h7, h8⟩ := h
    exact ⟨h1.moved hW.alike, fun i hi => (h2 i hi).warm hW, ⟨h3.1.moved hW.alike, h3.2.moved hW.alike⟩, ⟨h4.1.moved hW.alike, h4.2.moved hW.alike⟩, ⟨h5.1.moved hW.alike, h5.2.moved hW.alike⟩, h6.moved hW.alike, h7.elim (fun z => Or.inl (z.moved hW.alike)) (fun z => Or.inr (z.moved hW.alike)), fun w hw => sx_nestW hW hw (h8 w hw)⟩
  · obtain ⟨h1, h2, h3, h4, h5, h6, h7, h8⟩ := h
    exact ⟨h1.kept hq, h2, ⟨h3.1.kept hq, h3.2.kept hq⟩, ⟨h4.1.kept hq, h4.2.kept hq⟩, ⟨h5.1.kept hq, h5.2.kept hq⟩, h6.kept hq, h7.elim (fun z => Or.inl (z.kept hq)) (fun z => Or.inr (z.kept hq)), h8⟩
  · obtain ⟨h1, h2, h3, h4, h5, h6, h7, h8⟩ := h
    exact ⟨h1.narrow hAB, h2, ⟨h3.1.narrow hAB, h3.2.narrow hAB⟩, ⟨h4.1.narrow hAB, h4.2.narrow hAB⟩, ⟨h5.1.narrow hAB, h5.2.narrow hAB⟩, h6.narrow hAB, h7.elim (fun z => Or.inl (z.narrow hAB)) (fun z => Or.inr (z.narrow hAB)), h8⟩
def tfX (a _ : ClassId) : List (ClassId × FieldType) := [(a, .int)]
def tfM (a b : ClassId) : List (ClassId × FieldType) := [(a, .int), (b, .boolean)]
def shX : List sx_H := [.inr (6, [.inl 1, .inl 8, .inl 19, .inl 23, .inl 24, .inl 29, .inl 34, .inl 37, .inl 41, .inl 48, .inr false, .inr true]), .inr (4, [.inr false, .inr false, .inl 2, .inl 3, .inl 4, .inl 5, .inl 6, .inl 7, .inr false, .inr false, .inr false, .inr false]), .inl (false, 8), .inl (false, 8), .inl (false, 8), .inl (false, 4), .inl (false, 4), .inl (false, 4), .inr (3, [.inr false, .inl 9, .inl 10, .inl 17, .inl 18, .inr false, .inr false]), .inl (false, 400), .inr (4, [.inr false, .inr false, .inl 11, .inl 12, .inl 13, .inl 14, .inl 15, .inl 16, .inr false, .inr false, .inr false, .inr false]), .inl (false, 8), .inl (false, 8), .inl (false, 8), .inl (false, 4), .inl (false, 4), .inl (false, 4), .inl (false, 401), .inl (false, 401), .inr (0, [.inr false, .inr false, .inl 20, .inl 21, .inl 22]), .inl (false, 8), .inl (false, 8), .inl (false, 8), .inl (false, 6), .inr (1, [.inr false, .inr false, .inl 25]), .inr (0, [.inr false, .inr false, .inl 26, .inl 27, .inl 28]), .inl (false, 8), .inl (false, 8), .inl (false, 8), .inr (1, [.inr false, .inr false, .inl 30]), .inr (0, [.inr false, .inr false, .inl 31, .inl 32, .inl 33]), .inl (false, 8), .inl (false, 8), .inl (false, 8), .inr (5, [.inr false, .inl 35, .inl 36]), .inl (false, 30), .inl (false, 30), .inr (2, [.inr false, .inr false, .inl 38, .inl 39, .inl 40]), .inl (false, 8), .inl (false, 8), .inl (false, 8), .inr (4, [.inr false, .inr false, .inl 42, .inl 43, .inl 44, .inl 45, .inl 46, .inl 47, .inr false, .inr false, .inr false, .inr false]), .inl (false, 8), .inl (false, 8), .inl (false, 8), .inl (false, 4), .inl (false, 4), .inl (false, 4), .inr (0, [.inr false, .inr false, .inl 49, .inl 50, .inl 51]), .inl (false, 8), .inl (false, 8), .inl (false, 8)]
theorem shX_0 : shX[0]? = some (.inr (6, [.inl 1, .inl 8, .inl 19, .inl 23, .inl 24, .inl 29, .inl 34, .inl 37, .inl 41, .inl 48, .inr false, .inr true])) := rfl
theorem shX_1 : shX[1]? = some (.inr (4, [.inr false, .inr false, .inl 2, .inl 3, .inl 4, .inl 5, .inl 6, .inl 7, .inr false, .inr false, .inr false, .inr false])) := rfl
theorem shX_2 : shX[2]? = some (.inl (false, 8)) := rfl
theorem shX_3 : shX[3]? = some (.inl (false, 8)) := rfl
theorem shX_4 : shX[4]? = some (.inl (false, 8)) := rfl
theorem shX_5 : shX[5]? = some (.inl (false, 4)) := rfl
theorem shX_6 : shX[6]? = some (.inl (false, 4)) := rfl
theorem shX_7 : shX[7]? = some (.inl (false, 4)) := rfl
theorem shX_8 : shX[8]? = some (.inr (3, [.inr false, .inl 9, .inl 10, .inl 17, .inl 18, .inr false, .inr false])) := rfl
theorem shX_9 : shX[9]? = some (.inl (false, 400)) := rfl
theorem shX_10 : shX[10]? = some (.inr (4, [.inr false, .inr false, .inl 11, .inl 12, .inl 13, .inl 14, .inl 15, .inl 16, .inr false, .inr false, .inr false, .inr false])) := rfl
theorem shX_11 : shX[11]? = some (.inl (false, 8)) := rfl
theorem shX_12 : shX[12]? = some (.inl (false, 8)) := rfl
theorem shX_13 : shX[13]? = some (.inl (false, 8)) := rfl
theorem shX_14 : shX[14]? = some (.inl (false, 4)) := rfl
theorem shX_15 : shX[15]? = some (.inl (false, 4)) := rfl
theorem shX_16 : shX[16]? = some (.inl (false, 4)) := rfl
theorem shX_17 : shX[17]? = some (.inl (false, 401)) := rfl
theorem shX_18 : shX[18]? = some (.inl (false, 401)) := rfl
theorem shX_19 : shX[19]? = some (.inr (0, [.inr false, .inr false, .inl 20, .inl 21, .inl 22])) := rfl
theorem shX_20 : shX[20]? = some (.inl (false, 8)) := rfl
theorem shX_21 : shX[21]? = some (.inl (false, 8)) := rfl
theorem shX_22 : shX[22]? = some (.inl (false, 8)) := rfl
theorem shX_23 : shX[23]? = some (.inl (false, 6)) := rfl
theorem shX_24 : shX[24]? = some (.inr (1, [.inr false, .inr false, .inl 25])) := rfl
theorem shX_25 : shX[25]? = some (.inr (0, [.inr false, .inr false, .inl 26, .inl 27, .inl 28])) := rfl
theorem shX_26 : shX[26]? = some (.inl (false, 8)) := rfl
theorem shX_27 : shX[27]? = some (.inl (false, 8)) := rfl
theorem shX_28 : shX[28]? = some (.inl (false, 8)) := rfl
theorem shX_29 : shX[29]? = some (.inr (1, [.inr false, .inr false, .inl 30])) := rfl
theorem shX_30 : shX[30]? = some (.inr (0, [.inr false, .inr false, .inl 31, .inl 32, .inl 33])) := rfl
theorem shX_31 : shX[31]? = some (.inl (false, 8)) := rfl
theorem shX_32 : shX[32]? = some (.inl (false, 8)) := rfl
theorem shX_33 : shX[33]? = some (.inl (false, 8)) := rfl
theorem shX_34 : shX[34]? = some (.inr (5, [.inr false, .inl 35, .inl 36])) := rfl
theorem shX_35 : shX[35]? = some (.inl (false, 30)) := rfl
theorem shX_36 : shX[36]? = some (.inl (false, 30)) := rfl
theorem shX_37 : shX[37]? = some (.inr (2, [.inr false, .inr false, .inl 38, .inl 39, .inl 40])) := rfl
theorem shX_38 : shX[38]? = some (.inl (false, 8)) := rfl
theorem shX_39 : shX[39]? = some (.inl (false, 8)) := rfl
theorem shX_40 : shX[40]? = some (.inl (false, 8)) := rfl
theorem shX_41 : shX[41]? = some (.inr (4, [.inr false, .inr false, .inl 42, .inl 43, .inl 44, .inl 45, .inl 46, .inl 47, .inr false, .inr false, .inr false, .inr false])) := rfl
theorem shX_42 : shX[42]? = some (.inl (false, 8)) := rfl
theorem shX_43 : shX[43]? = some (.inl (false, 8)) := rfl
theorem shX_44 : shX[44]? = some (.inl (false, 8)) := rfl
theorem shX_45 : shX[45]? = some (.inl (false, 4)) := rfl
theorem shX_46 : shX[46]? = some (.inl (false, 4)) := rfl
theorem shX_47 : shX[47]? = some (.inl (false, 4)) := rfl
theorem shX_48 : shX[48]? = some (.inr (0, [.inr false, .inr false, .inl 49, .inl 50, .inl 51])) := rfl
theorem shX_49 : shX[49]? = some (.inl (false, 8)) := rfl
theorem shX_50 : shX[50]? = some (.inl (false, 8)) := rfl
theorem shX_51 : shX[51]? = some (.inl (false, 8)) := rfl
def shM : List sx_H := [.inr (7, [.inr false, .inr true, .inl 1, .inr false, .inr false, .inr false, .inr false, .inr false, .inr false, .inl 2, .inl 3, .inl 4, .inl 5, .inl 6, .inl 7, .inl 8, .inr false, .inl 9, .inl 10, .inr false]), .inl (false, 400), .inl (false, 84), .inl (false, 6), .inl (false, 27), .inl (false, 54), .inl (true, 2), .inl (false, 27), .inl (false, 84), .inl (false, 30), .inl (false, 30)]
theorem shM_0 : shM[0]? = some (.inr (7, [.inr false, .inr true, .inl 1, .inr false, .inr false, .inr false, .inr false, .inr false, .inr false, .inl 2, .inl 3, .inl 4, .inl 5, .inl 6, .inl 7, .inl 8, .inr false, .inl 9, .inl 10, .inr false])) := rfl
theorem shM_1 : shM[1]? = some (.inl (false, 400)) := rfl
theorem shM_2 : shM[2]? = some (.inl (false, 84)) := rfl
theorem shM_3 : shM[3]? = some (.inl (false, 6)) := rfl
theorem shM_4 : shM[4]? = some (.inl (false, 27)) := rfl
theorem shM_5 : shM[5]? = some (.inl (false, 54)) := rfl
theorem shM_6 : shM[6]? = some (.inl (true, 2)) := rfl
theorem shM_7 : shM[7]? = some (.inl (false, 27)) := rfl
theorem shM_8 : shM[8]? = some (.inl (false, 84)) := rfl
theorem shM_9 : shM[9]? = some (.inl (false, 30)) := rfl
theorem shM_10 : shM[10]? = some (.inl (false, 30)) := rfl
def iSh (k : Nat) : Prop := shX[k]? = some (.inr (4, [.inr false, .inr false, .inl (k + 1), .inl (k + 2), .inl (k + 3), .inl (k + 4), .inl (k + 5), .inl (k + 6), .inr false, .inr false, .inr false, .inr false])) ∧ shX[k + 1]? = some (.inl (false, 8)) ∧ shX[k + 2]? = some (.inl (false, 8)) ∧ shX[k + 3]? = some (.inl (false, 8)) ∧ shX[k + 4]? = some (.inl (false, 4)) ∧ shX[k + 5]? = some (.inl (false, 4)) ∧ shX[k + 6]? = some (.inl (false, 4))
theorem iSh_1 : iSh 1 := ⟨rfl, rfl, rfl, rfl, rfl, rfl, rfl⟩
theorem iSh_10 : iSh 10 := ⟨rfl, rfl, rfl, rfl, rfl, rfl, rfl⟩
theorem iSh_41 : iSh 41 := ⟨rfl, rfl, rfl, rfl, rfl, rfl, rfl⟩
def iCo (k : Nat) : Prop := shX[k]? = some (.inr (0, [.inr false, .inr false, .inl (k + 1), .inl (k + 2), .inl (k + 3)])) ∧ shX[k + 1]? = some (.inl (false, 8)) ∧ shX[k + 2]? = some (.inl (false, 8)) ∧ shX[k + 3]? = some (.inl (false, 8))
theorem iCo_19 : iCo 19 := ⟨rfl, rfl, rfl, rfl⟩
theorem iCo_25 : iCo 25 := ⟨rfl, rfl, rfl, rfl⟩
theorem iCo_30 : iCo 30 := ⟨rfl, rfl, rfl, rfl⟩
theorem iCo_48 : iCo 48 := ⟨rfl, rfl, rfl, rfl⟩
def iIm (k : Nat) : Prop := shX[k]? = some (.inr (1, [.inr false, .inr false, .inl (k + 1)])) ∧ iCo (k + 1)
theorem iIm_24 : iIm 24 := ⟨rfl, iCo_25⟩
theorem iIm_29 : iIm 29 := ⟨rfl, iCo_30⟩
theorem iIm_of {r : Nat} (h : r = 24 ∨ r = 29) : iIm r := h.elim (fun e => e ▸ iIm_24) (fun e => e ▸ iIm_29)
def iA8 (r : Nat) : Prop := shX[r]? = some (.inl (false, 8))
def iA27 (r : Nat) : Prop := shM[r]? = some (.inl (false, 27))
theorem cb_X0 : sx_CB vwCl 0 RX0 TX0 5 tyX0 := ⟨rfl, fun w h => gg_in2 (inX0 w h) (gd_X0 w h), tyX0_ok, nmX0⟩
theorem cb_X1 : sx_CB vwCl 1 RX1 TX1 3 tyX1 := ⟨rfl, fun w h => gg_in2 (inX1 w h) (gd_X1 w h), tyX1_ok, nmX1⟩
theorem cb_X2 : sx_CB vwCl 2 RX2 TX2 5 tyX2 := ⟨rfl, fun w h => gg_in2 (inX2 w h) (gd_X2 w h), tyX2_ok, nmX2⟩
theorem cb_X3 : sx_CB vwCl 3 RX3 TX3 7 tyX3 := ⟨rfl, fun w h => gg_in2 (inX3 w h) (gd_X3 w h), tyX3_ok, nmX3⟩
theorem cb_X4 : sx_CB vwCl 4 RX4 TX4 12 tyX4 := ⟨rfl, fun w h => gg_in2 (inX4 w h) (gd_X4 w h), tyX4_ok, nmX4⟩
theorem cb_X5 : sx_CB vwCl 5 RX5 TX5 3 tyX5 := ⟨rfl, fun w h => gg_in2 (inX5 w h) (gd_X5 w h), tyX5_ok, nmX5⟩
theorem cb_X6 : sx_CB vwCl 6 RX6 TX6 12 tyX6 := ⟨rfl, fun w h => gg_in2 (inX6 w h) (gd_X6 w h), tyX6_ok, nmX6⟩
theorem cb_X7 : sx_CB vwCl 7 RX7 TX7 20 tyX7 := ⟨rfl, fun w h => gg_in2 (inX7 w h) (gd_X7 w h), tyX7_ok, nmX7⟩
/-! the words of the functions that a program read out of the bytecode -/
theorem sx_ofI1 : Int32.ofInt 1 = (1 : Int32) := by decide
theorem sx_ofI_m1 : Int32.ofInt (-1) = (-1 : Int32) := by decide
theorem sx_ofI4 : Int32.ofInt 4 = (4 : Int32) := by decide
def sx_let {α β : Type} (x : α) (f : α → β) : β := f x
theorem sx_lt {α β : Type} {x : α} {f : α → Option β} {r : β} (h : sx_let x f = some r) : ∃ y, y = x ∧ f y = some r := ⟨x, rfl, h⟩
theorem sx_gd {α : Type} {b : Prop} [Decidable b] {x : Option α} {r : α} (h : (if b then x else none) = some r) : b ∧ x = some r := by
  by_cases c : b
  · rw [if_pos c] at h
    exact ⟨c, h⟩
  · rw [if_neg c] at h
    cases h
theorem sx_ip {α : Type} {c : Prop} [Decidable c] {x y : α} {r : α} (h : (if c then x else y) = r) (hc : c) : x = r := by rw [if_pos hc] at h; exact h
theorem sx_in {α : Type} {c : Prop} [Decidable c] {x y : α} {r : α} (h : (if c then x else y) = r) (hc : ¬ c) : y = r := by rw [if_neg hc] at h; exact h
theorem sx_bd {α β : Type} {x : Option α} {f : α → Option β} {r : β} (h : x.bind f = some r) : ∃ z, x = some z ∧ f z = some r := Option.bind_eq_some_iff.mp h
theorem sx_mp {α β : Type} {x : Option α} {f : α → β} {r : β} (h : x.map f = some r) : ∃ t, x = some t ∧ r = f t := by
  obtain ⟨t, h1, h2⟩ := Option.map_eq_some_iff.mp h
  exact ⟨t, h1, h2.symm⟩
def sx_ix (i : Int32) (n : Nat) : Bool := !(decide (i < 0) || decide (n ≤ i.toNatClampNeg))
theorem sx_ix_in {i : Int32} {n : Nat} (h : sx_ix i n = true) : vp_in i n := by
  intro z
  rcases z with z | z <;> simp [sx_ix, z] at h
theorem sx_ix_of {i : Int32} {n : Nat} (h : vp_in i n) : sx_ix i n = true := by
  have h1 : ¬ i < 0 := fun z => h (Or.inl z)
  have h2 : ¬ n ≤ i.toNatClampNeg := fun z => h (Or.inr z)
  simp [sx_ix, h1, h2]
theorem sx_ixN {j n : Nat} (h : j < n) (hn : n < 2 ^ 31) : sx_ix (nI j) n = true := sx_ix_of (vp_in_nI h hn)
def sx_n0 (x : Int32) : Bool := !(decide (x = 0))
theorem sx_nz {x : Int32} (h : sx_n0 x = true) : ¬ x = 0 := by
  intro z
  simp [sx_n0, z] at h
def sx_bt (x : Int32) : Bool := decide (x = 0) || decide (x = 1)
theorem sx_bit {x : Int32} (h : sx_bt x = true) : x = 0 ∨ x = 1 := by
  simp only [sx_bt, Bool.or_eq_true, decide_eq_true_eq] at h
  exact h
def sx_loop {σ ρ : Type} (body : σ → Option (σ ⊕ ρ)) : Nat → σ → Option ρ
  | 0, _ => none
  | n + 1, s => (body s).bind (fun x => match x with | .inl s2 => sx_loop body n s2 | .inr t => some t)
def FU : Nat := 1000
theorem sx_lp {σ ρ : Type} {body : σ → Option (σ ⊕ ρ)} {P : σ → Prop} {T : ρ → Prop} (step : ∀ (s : σ) (res : σ ⊕ ρ), body s = some res → (∀ s2, res = .inl s2 → P s2) → (∀ t, res = .inr t → T t) → P s) : ∀ (n : Nat) (s : σ) (t : ρ), sx_loop body n s = some t → T t → P s := by
  intro n
  induction n with
  | zero => intro s t h; cases h
  | succ n ih =>
    intro s t h ht
    obtain ⟨x, h1, h2⟩ := sx_bd h
    refine step s x h1 (fun s2 e => ?_) (fun t2 e => ?_)
    · subst e
      exact ih s2 t h2 ht
    · subst e
      cases h2
      exact ht
theorem gw_copy : Cond.native arraycopyName ∈ GG ∧ Cond.static arraycopyName ∈ GG ∧ Cond.initialized "java/lang/System" ∈ GG := ⟨gw_275, gw_274, gw_67⟩
theorem gw_mmin : Cond.static Lib.Math.min.name ∈ GG ∧ Cond.initialized "java/lang/Math" ∈ GG ∧ Cond.code Lib.Math.min.name Lib.Math.min.code 2 (some .int) ∈ GG := ⟨gw_560, gw_73, gw_561⟩
theorem gw_mmax : Cond.static Lib.Math.max.name ∈ GG ∧ Cond.initialized "java/lang/Math" ∈ GG ∧ Cond.code Lib.Math.max.name Lib.Math.max.code 2 (some .int) ∈ GG := ⟨gw_573, gw_73, gw_574⟩
theorem gw_mabs : Cond.static Lib.Math.abs.name ∈ GG ∧ Cond.initialized "java/lang/Math" ∈ GG ∧ Cond.code Lib.Math.abs.name Lib.Math.abs.code 1 (some .int) ∈ GG := ⟨gw_707, gw_73, gw_708⟩
section SXW
variable {sh : List sx_H} {cl : List vw_C} {K : (Nat → Nat) → (Nat → Prop) → State → Heap → Prop} {tf : ClassId → ClassId → List (ClassId × FieldType)} {l : Launch} {own : String} {cc : ByteArray} {nL : Nat} {ret : Option FieldType} {R : Room} {Q : Option Value → SQ → Prop} {pc : Nat} {ls : List (Nat × Value)} {st : List Value} {q : SQ}
theorem sx_nmI {x y : Int32} (e : y = x) (k : XX sh cl K tf l own cc nL ret R Q pc ls (.int y :: st) q) : XX sh cl K tf l own cc nL ret R Q pc ls (.int x :: st) q := e ▸ k
theorem sx_nmL {x y : Int64} (e : y = x) (k : XX sh cl K tf l own cc nL ret R Q pc ls (.long y :: st) q) : XX sh cl K tf l own cc nL ret R Q pc ls (.long x :: st) q := e ▸ k
theorem sx_nmR {x y : Nat} (e : y = x) (k : XX sh cl K tf l own cc nL ret R Q pc ls (.ref y :: st) q) : XX sh cl K tf l own cc nL ret R Q pc ls (.ref x :: st) q := e ▸ k
theorem sx_nmQ {q2 : SQ} (e : q2 = q) (k : XX sh cl K tf l own cc nL ret R Q pc ls st q2) : XX sh cl K tf l own cc nL ret R Q pc ls st q := e ▸ k
theorem sx_ialdC {o n j9 : Nat} {i : Int32} (d : decode cc pc = .ok (.iaload, 1)) (hs : sh[o]? = some (.inl (false, n))) (ht : ∀ a b, (tf a b)[0]? = some (a, .int)) (hj : i.toNatClampNeg = j9) (hi : ¬ (i < 0 ∨ n ≤ i.toNatClampNeg)) (k : XX sh cl K tf l own cc nL ret R Q (pc + 1) ls (.int (gI q o j9) :: st) q) : XX sh cl K tf l own cc nL ret R Q pc ls (.int i :: .ref o :: st) q := by
  subst hj
  exact sx_iald d hs ht hi k
theorem sx_zaldC {o n j9 : Nat} {i : Int32} (d : decode cc pc = .ok (.baload, 1)) (hs : sh[o]? = some (.inl (true, n))) (ht : ∀ a b, (tf a b)[1]? = some (b, .boolean)) (hj : i.toNatClampNeg = j9) (hi : ¬ (i < 0 ∨ n ≤ i.toNatClampNeg)) (k : XX sh cl K tf l own cc nL ret R Q (pc + 1) ls (.int (gI q o j9) :: st) q) : XX sh cl K tf l own cc nL ret R Q pc ls (.int i :: .ref o :: st) q := by
  subst hj
  exact sx_zald d hs ht hi k
theorem sx_iastC {o n j9 : Nat} {i v : Int32} (d : decode cc pc = .ok (.iastore, 1)) (hs : sh[o]? = some (.inl (false, n))) (ht : ∀ a b, (tf a b)[0]? = some (a, .int)) (hj : i.toNatClampNeg = j9) (hi : ¬ (i < 0 ∨ n ≤ i.toNatClampNeg)) (k : XX sh cl K tf l own cc nL ret R Q (pc + 1) ls st (sI q o j9 v)) : XX sh cl K tf l own cc nL ret R Q pc ls (.int v :: .int i :: .ref o :: st) q := by
  subst hj
  exact sx_iast d hs ht hi k
theorem sx_zastV {o n : Nat} {i v : Int32} (d : decode cc pc = .ok (.bastore, 1)) (hs : sh[o]? = some (.inl (true, n))) (ht : ∀ a b, (tf a b)[1]? = some (b, .boolean)) (hi : vp_in i n) (hv : vp_nar .boolean v = v) (k : XX sh cl K tf l own cc nL ret R Q (pc + 1) ls st (sI q o i.toNatClampNeg v)) : XX sh cl K tf l own cc nL ret R Q pc ls (.int v :: .int i :: .ref o :: st) q := by
  refine sx_zast d hs ht hi ?_
  rw [hv]
  exact k
theorem sx_zastC {o n j9 : Nat} {i v : Int32} (d : decode cc pc = .ok (.bastore, 1)) (hs : sh[o]? = some (.inl (true, n))) (ht : ∀ a b, (tf a b)[1]? = some (b, .boolean)) (hj : i.toNatClampNeg = j9) (hi : ¬ (i < 0 ∨ n ≤ i.toNatClampNeg)) (hv : vp_nar .boolean v = v) (k : XX sh cl K tf l own cc nL ret R Q (pc + 1) ls st (sI q o j9 v)) : XX sh cl K tf l own cc nL ret R Q pc ls (.int v :: .int i :: .ref o :: st) q := by
  subst hj
  exact sx_zastV d hs ht hi hv k
theorem sx_copyC {o o2 n n2 n9 j : Nat} {w : Int32} (d : decode cc pc = .ok (.invokestatic j, 3)) (hln : Cond.methodLink own j arraycopyName ∈ GG) (hw : Cond.native arraycopyName ∈ GG ∧ Cond.static arraycopyName ∈ GG ∧ Cond.initialized "java/lang/System" ∈ GG) (hs : sh[o]? = some (.inl (false, n))) (hs2 : sh[o2]? = some (.inl (false, n2))) (ht : ∀ a b, (tf a b)[0]? = some (a, .int)) (hn9 : w.toNatClampNeg = n9) (h3 : ¬ w < 0) (h4 : n9 ≤ n) (h5 : n9 ≤ n2) (hf : 1 ≤ R.frames) (hlo : (st.map fun v => v.category).sum + (nativeFrameWords "java/lang/System" "arraycopy" 5 + 11) ≤ R.locals) (k : XX sh cl K tf l own cc nL ret R Q (pc + 3) ls st (sA q o2 (va_cpy (q.1 o) (q.1 o2) 0 0 n9))) : XX sh cl K tf l own cc nL ret R Q pc ls (.int w :: .int 0 :: .ref o2 :: .int 0 :: .ref o :: st) q := by
  subst hn9
  have z : (0 : Int32).toNatClampNeg = 0 := by decide
  refine sx_copy d hln hw hs hs2 ht (by decide) (by decide) h3 (by rw [z]; omega) (by rw [z]; omega) hf hlo ?_
  rw [z]
  exact k
end SXW
section SXK
variable {l : Launch} {own : String} {cc : ByteArray} {nL : Nat} {ret : Option FieldType} {R : Room} {Q : Option Value → SQ → Prop} {pc : Nat} {ls : List (Nat × Value)} {st : List Value} {q : SQ}
theorem sx_gets_TUNE_MOST {n : Nat} (d : decode cc pc = .ok (.getstatic n, 3)) (hln : Cond.fieldLink own n "StarChart" "TUNE_MOST" "[I" ∈ GG) (k : XX shX vwCl KX tfX l own cc nL ret R Q (pc + 3) ls (.ref 1010 :: st) q) : XX shX vwCl KX tfX l own cc nL ret R Q pc ls st q := by
  intro p e s m args below meth c H locs D ad cI cZ A lsC hx hb hr hlk hml hown hts hKx hK hP hD hS hA hl
  exact va_gets hx hb hKx.2.2.1.1 hS hown (hts _ hln) (fun _ h => h) d (k p e s m args below meth c H locs D ad cI cZ A lsC hx hb hr hlk hml hown hts hKx hK hP hD hS hA hl)
theorem sx_tald1010 {i : Int32} (d : decode cc pc = .ok (.iaload, 1)) (hi : vp_in i 6) (k : XX shX vwCl KX tfX l own cc nL ret R Q (pc + 1) ls (.int (tMost i.toNatClampNeg) :: st) q) : XX shX vwCl KX tfX l own cc nL ret R Q pc ls (.int i :: .ref 1010 :: st) q := by
  intro p e s m args below meth c H locs D ad cI cZ A lsC hx hb hr hlk hml hown hts hKx hK hP hD hS hA hl
  exact va_ti hx hb hKx.2.2.1.2 hS hi rfl d (k p e s m args below meth c H locs D ad cI cZ A lsC hx hb hr hlk hml hown hts hKx hK hP hD hS hA hl)
theorem sx_talen1010 (d : decode cc pc = .ok (.arraylength, 1)) (k : XX shX vwCl KX tfX l own cc nL ret R Q (pc + 1) ls (.int 6 :: st) q) : XX shX vwCl KX tfX l own cc nL ret R Q pc ls (.ref 1010 :: st) q := by
  intro p e s m args below meth c H locs D ad cI cZ A lsC hx hb hr hlk hml hown hts hKx hK hP hD hS hA hl
  exact va_tlen hx hb hKx.2.2.1.2 hS (v := 6) (by decide) d (k p e s m args below meth c H locs D ad cI cZ A lsC hx hb hr hlk hml hown hts hKx hK hP hD hS hA hl)
theorem sx_gets_SORTS_WITH {n : Nat} (d : decode cc pc = .ok (.getstatic n, 3)) (hln : Cond.fieldLink own n "StarChart$Trials" "SORTS_WITH" "[I" ∈ GG) (k : XX shX vwCl KX tfX l own cc nL ret R Q (pc + 3) ls (.ref 1011 :: st) q) : XX shX vwCl KX tfX l own cc nL ret R Q pc ls st q := by
  intro p e s m args below meth c H locs D ad cI cZ A lsC hx hb hr hlk hml hown hts hKx hK hP hD hS hA hl
  exact va_gets hx hb hKx.2.2.2.1.1 hS hown (hts _ hln) (fun _ h => h) d (k p e s m args below meth c H locs D ad cI cZ A lsC hx hb hr hlk hml hown hts hKx hK hP hD hS hA hl)
theorem sx_tald1011 {i : Int32} (d : decode cc pc = .ok (.iaload, 1)) (hi : vp_in i 3) (k : XX shX vwCl KX tfX l own cc nL ret R Q (pc + 1) ls (.int (tWith i.toNatClampNeg) :: st) q) : XX shX vwCl KX tfX l own cc nL ret R Q pc ls (.int i :: .ref 1011 :: st) q := by
  intro p e s m args below meth c H locs D ad cI cZ A lsC hx hb hr hlk hml hown hts hKx hK hP hD hS hA hl
  exact va_ti hx hb hKx.2.2.2.1.2 hS hi rfl d (k p e s m args below meth c H locs D ad cI cZ A lsC hx hb hr hlk hml hown hts hKx hK hP hD hS hA hl)
theorem sx_talen1011 (d : decode cc pc = .ok (.arraylength, 1)) (k : XX shX vwCl KX tfX l own cc nL ret R Q (pc + 1) ls (.int 3 :: st) q) : XX shX vwCl KX tfX l own cc nL ret R Q pc ls (.ref 1011 :: st) q := by
  intro p e s m args below meth c H locs D ad cI cZ A lsC hx hb hr hlk hml hown hts hKx hK hP hD hS hA hl
  exact va_tlen hx hb hKx.2.2.2.1.2 hS (v := 3) (by decide) d (k p e s m args below meth c H locs D ad cI cZ A lsC hx hb hr hlk hml hown hts hKx hK hP hD hS hA hl)
theorem sx_gets_TUNE_FIRST {n : Nat} (d : decode cc pc = .ok (.getstatic n, 3)) (hln : Cond.fieldLink own n "StarChart" "TUNE_FIRST" "[I" ∈ GG) (k : XX shX vwCl KX tfX l own cc nL ret R Q (pc + 3) ls (.ref 1012 :: st) q) : XX shX vwCl KX tfX l own cc nL ret R Q pc ls st q := by
  intro p e s m args below meth c H locs D ad cI cZ A lsC hx hb hr hlk hml hown hts hKx hK hP hD hS hA hl
  exact va_gets hx hb hKx.2.2.2.2.1.1 hS hown (hts _ hln) (fun _ h => h) d (k p e s m args below meth c H locs D ad cI cZ A lsC hx hb hr hlk hml hown hts hKx hK hP hD hS hA hl)
theorem sx_tald1012 {i : Int32} (d : decode cc pc = .ok (.iaload, 1)) (hi : vp_in i 6) (k : XX shX vwCl KX tfX l own cc nL ret R Q (pc + 1) ls (.int (tFirst i.toNatClampNeg) :: st) q) : XX shX vwCl KX tfX l own cc nL ret R Q pc ls (.int i :: .ref 1012 :: st) q := by
  intro p e s m args below meth c H locs D ad cI cZ A lsC hx hb hr hlk hml hown hts hKx hK hP hD hS hA hl
  exact va_ti hx hb hKx.2.2.2.2.1.2 hS hi rfl d (k p e s m args below meth c H locs D ad cI cZ A lsC hx hb hr hlk hml hown hts hKx hK hP hD hS hA hl)
theorem sx_talen1012 (d : decode cc pc = .ok (.arraylength, 1)) (k : XX shX vwCl KX tfX l own cc nL ret R Q (pc + 1) ls (.int 6 :: st) q) : XX shX vwCl KX tfX l own cc nL ret R Q pc ls (.ref 1012 :: st) q := by
  intro p e s m args below meth c H locs D ad cI cZ A lsC hx hb hr hlk hml hown hts hKx hK hP hD hS hA hl
  exact va_tlen hx hb hKx.2.2.2.2.1.2 hS (v := 6) (by decide) d (k p e s m args below meth c H locs D ad cI cZ A lsC hx hb hr hlk hml hown hts hKx hK hP hD hS hA hl)
theorem sx_ldcS {n : Nat} (i : Nat) (ho : own = "StarChart$Reader") (d : decode cc pc = .ok (.ldc n, 2)) (hi : i < 6) (hn : sx_si i = n) (k : XX shX vwCl KX tfX l own cc nL ret R Q (pc + 2) ls (.ref (1000 + i) :: st) q) : XX shX vwCl KX tfX l own cc nL ret R Q pc ls st q := by
  intro p e s m args below meth c H locs D ad cI cZ A lsC hx hb hr hlk hml hown hts hKx hK hP hD hS hA hl
  subst hn
  subst ho
  exact va_ldcS hx hb hown (hKx.2.1 i hi) d (k p e s m args below meth c H locs D ad cI cZ A lsC hx hb hr hlk hml hown hts hKx hK hP hD hS hA hl)
theorem sx_gets_CS {n : Nat} (d : decode cc pc = .ok (.getstatic n, 3)) (hln : Cond.fieldLink own n "java/lang/String" "COMPACT_STRINGS" "Z" ∈ GG) (k : XX shX vwCl KX tfX l own cc nL ret R Q (pc + 3) ls (.int 1 :: st) q) : XX shX vwCl KX tfX l own cc nL ret R Q pc ls st q := by
  intro p e s m args below meth c H locs D ad cI cZ A lsC hx hb hr hlk hml hown hts hKx hK hP hD hS hA hl
  exact va_gets hx hb hKx.2.2.2.2.2.1 hS hown (hts _ hln) (fun _ h => h) d (k p e s m args below meth c H locs D ad cI cZ A lsC hx hb hr hlk hml hown hts hKx hK hP hD hS hA hl)
theorem sx_gets_SF {n : Nat} (d : decode cc pc = .ok (.getstatic n, 3)) (hln : Cond.fieldLink own n "jdk/internal/util/Preconditions" "SIOOBE_FORMATTER" "Ljava/util/function/BiFunction;" ∈ GG) (k1 : XX shX vwCl KX tfX l own cc nL ret R Q (pc + 3) ls (.null :: st) q) (k : XX shX vwCl KX tfX l own cc nL ret R Q (pc + 3) ls (.ref 1020 :: st) q) : XX shX vwCl KX tfX l own cc nL ret R Q pc ls st q := by
  intro p e s m args below meth c H locs D ad cI cZ A lsC hx hb hr hlk hml hown hts hKx hK hP hD hS hA hl
  rcases hKx.2.2.2.2.2.2.1 with z | z
  · exact va_gets hx hb z hS hown (hts _ hln) (fun _ h => h) d (k1 p e s m args below meth c H locs D ad cI cZ A lsC hx hb hr hlk hml hown hts hKx hK hP hD hS hA hl)
  · exact va_gets hx hb z hS hown (hts _ hln) (fun _ h => h) d (k p e s m args below meth c H locs D ad cI cZ A lsC hx hb hr hlk hml hown hts hKx hK hP hD hS hA hl)
theorem sx_kval {n i : Nat} (d : decode cc pc = .ok (.getfield n, 3)) (hi : i < 6) (hln : Cond.fieldLink own n "java/lang/String" "value" "[B" ∈ GG) (k : XX shX vwCl KX tfX l own cc nL ret R Q (pc + 3) ls (.ref (1100 + i) :: st) q) : XX shX vwCl KX tfX l own cc nL ret R Q pc ls (.ref (1000 + i) :: st) q := by
  intro p e s m args below meth c H locs D ad cI cZ A lsC hx hb hr hlk hml hown hts hKx hK hP hD hS hA hl
  exact vk_getf hx hb (hKx.1.1 i hi).2.2.1 hS hown (hts _ hln) (fun _ h => h) d (k p e s m args below meth c H locs D ad cI cZ A lsC hx hb hr hlk hml hown hts hKx hK hP hD hS hA hl)
theorem sx_kcod {n i : Nat} (d : decode cc pc = .ok (.getfield n, 3)) (hi : i < 6) (hln : Cond.fieldLink own n "java/lang/String" "coder" "B" ∈ GG) (k : XX shX vwCl KX tfX l own cc nL ret R Q (pc + 3) ls (.int 0 :: st) q) : XX shX vwCl KX tfX l own cc nL ret R Q pc ls (.ref (1000 + i) :: st) q := by
  intro p e s m args below meth c H locs D ad cI cZ A lsC hx hb hr hlk hml hown hts hKx hK hP hD hS hA hl
  exact vk_getf hx hb (hKx.1.1 i hi).2.1 hS hown (hts _ hln) (fun _ h => h) d (k p e s m args below meth c H locs D ad cI cZ A lsC hx hb hr hlk hml hown hts hKx hK hP hD hS hA hl)
theorem sx_kblen {i : Nat} (d : decode cc pc = .ok (.arraylength, 1)) (hi : i < 6) (k : XX shX vwCl KX tfX l own cc nL ret R Q (pc + 1) ls (.int (nI (sx_stl i)) :: st) q) : XX shX vwCl KX tfX l own cc nL ret R Q pc ls (.ref (1100 + i) :: st) q := by
  intro p e s m args below meth c H locs D ad cI cZ A lsC hx hb hr hlk hml hown hts hKx hK hP hD hS hA hl
  exact va_tlen hx hb (hKx.1.1 i hi).2.2.2 hS rfl d (k p e s m args below meth c H locs D ad cI cZ A lsC hx hb hr hlk hml hown hts hKx hK hP hD hS hA hl)
theorem sx_kbald {i : Nat} {j : Int32} (d : decode cc pc = .ok (.baload, 1)) (hi : i < 6) (hj : vp_in j (sx_stl i)) (k : XX shX vwCl KX tfX l own cc nL ret R Q (pc + 1) ls (.int (sx_sb i j.toNatClampNeg) :: st) q) : XX shX vwCl KX tfX l own cc nL ret R Q pc ls (.int j :: .ref (1100 + i) :: st) q := by
  intro p e s m args below meth c H locs D ad cI cZ A lsC hx hb hr hlk hml hown hts hKx hK hP hD hS hA hl
  exact va_tb hx hb (hKx.1.1 i hi).2.2.2 hS hj rfl d (k p e s m args below meth c H locs D ad cI cZ A lsC hx hb hr hlk hml hown hts hKx hK hP hD hS hA hl)
theorem sx_i2c {x : Int32} (d : decode cc pc = .ok (.i2c, 1)) (k : XX shX vwCl KX tfX l own cc nL ret R Q (pc + 1) ls (.int (x.toUInt32 % 65536).toInt32 :: st) q) : XX shX vwCl KX tfX l own cc nL ret R Q pc ls (.int x :: st) q := by
  intro p e s m args below meth c H locs D ad cI cZ A lsC hx hb hr hlk hml hown hts hKx hK hP hD hS hA hl
  exact lv_i2c hx hb d rfl (k p e s m args below meth c H locs D ad cI cZ A lsC hx hb hr hlk hml hown hts hKx hK hP hD hS hA hl)
theorem sx_nret {v : Int32} {ty : FieldType} (d : decode cc pc = .ok (.ireturn, 1)) (hr9 : ret = some ty) (hn : narrow ty (.int v) = .int v) (hQ : Q (some (.int v)) q) : XX shX vwCl KX tfX l own cc nL ret R Q pc ls [.int v] q := by
  intro p e s m args below meth c H locs D ad cI cZ A lsC hx hb hr hlk hml hown hts hKx hK hP hD hS hA hl
  exact W.zret (v := v) (ty := ty) hx hb (hr.trans hr9) hn (fun t ht hW => ⟨⟨some (.int v), q, rfl, hQ, by rw [ht]; exact hP, va_K.moved hW.alike hK⟩, hS.F ht⟩) hS.2.2 d hlk
theorem sx_callVK {y : MethodName} {cc9 : ByteArray} {nL9 n f9 L9 j : Nat} {ret9 : Option FieldType} {As rest : List Value} {res : Option Value} {q2 : SQ} {i : Nat} (KS : sx_KS KX) (hc : CK shX vwCl KX tfX l y cc9 nL9 ret9 f9 L9 (.ref (1000 + i) :: As) q res q2) (mi : sx_MI y cc9 nL9 ret9 n) (hln : Cond.methodLink own j y ∈ GG) (hn : As.length = n) (hin : Cond.instanceMethod y ∈ GG ∧ Cond.selects y.cls y y ∈ GG) (hi : i < 6) (hy9 : y.cls = "java/lang/String") (hR : f9 + 1 ≤ R.frames ∧ 8 + (nL9 + 11) + L9 ≤ R.locals) (hcat : (rest.map fun v => v.category).sum ≤ 8) (d : decode cc pc = .ok (.invokevirtual j, 3)) (hst : st = As.reverse ++ .ref (1000 + i) :: rest) (k : XX shX vwCl KX tfX l own cc nL ret R Q (pc + 3) ls (res.toList ++ rest) q2) : XX shX vwCl KX tfX l own cc nL ret R Q pc ls st q := by
  intro p e s m args below meth c H locs D ad cI cZ A lsC hx hb hr hlk hml hown hts hKx hK hP hD hS hA hl
  subst hst
  have hsub : ∀ a, va_A (sx_cw shX cI cZ ad q) H.size a → A a := by
    intro a ha
    rcases ha with ⟨k, e, h⟩ | h
    · exact hD.2 k _ h
    · exact hA a (Nat.le_trans hS.1 h)
  have hb9 := callB_of (R := R) (own := own) (index := j) (mc := 0) (ms := 0) (rm := { frames := f9, cells := 0, slots := 0, locals := L9 }) n hts (sx_good mi.2.2.1) rfl rfl rfl (hts _ mi.2.2.2) (hts _ hln) mi.2.1 hR
  obtain ⟨hp1, hp2⟩ := sx_pre (y := y) (cc9 := cc9) (nL9 := nL9) (ret9 := ret9) (vs := .ref (1000 + i) :: As) KS hKx hK hP hD hS hA
  have hrec := vk_recv hKx.1 hi hS
  rw [← hy9] at hrec
  refine sx_call (va_runV (C := y.cls) (As := As.map (sx_cz ad)) (rest := rest.map (sx_cz ad)) ⟨hx, hb, hml, hown, hts⟩ (hc D ad cI cZ H.size) ⟨hb9, hts _ hin.1, hts _ hin.2⟩ ⟨hp1, hrec, hp2⟩ rfl (by rw [List.length_map]; exact hn) hl.1 (by simp [sx_cz]) (lv_room (by rw [sx_cats]; exact hcat)) d ⟨Nat.zero_le _, Nat.zero_le _⟩) hS (fun a _ h => hsub a h) hsub (fun r u H1 locs1 hQ9 hP1 hS1 => ?_)
  obtain ⟨rfl, rfl⟩ := hQ9
  have hk := k p e s m args below meth c H1 locs1 D ad cI cZ A lsC hx hb hr hlk hml hown hts hKx hK hP1 (sx_D _ hD) hS1 hA hl
  have e1 : ((r.map (sx_cz ad)).toList ++ rest.map (sx_cz ad)) = (r.toList ++ rest).map (sx_cz ad) := by cases r <;> simp
  rw [e1]
  exact hk
theorem nw_RX3_98 (ad : Nat → Nat) (A : Nat → Prop) (U : State) (H : Heap) (h : KX ad A U H) : va_Nw (.methodLinkNest "StarChart$Reader" 98 yX6_within "StarChart") U := h.2.2.2.2.2.2.2 _ (by simp [sx_nests, yX6_within, RX6])
end SXK
