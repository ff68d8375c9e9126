/-! what the class's world stands on holds at the start -/
def LG : Cond := Jvm.Cond.and given_1 narrow_1
def tmS (i : Nat) : Term := .string "StarChart$Reader" (sx_si i)
theorem kx_ex : ∀ i, i < 6 → Cond.exactly (tmS i) "java/lang/String" ∈ flatC LG := by decide +kernel
theorem kx_co : ∀ i, i < 6 → Cond.eq (.field (tmS i) "java/lang/String" "coder" "B") (.int 0) ∈ flatC LG := by decide +kernel
theorem kx_ar : ∀ i, i < 6 → Cond.arrayOf (.field (tmS i) "java/lang/String" "value" "[B") .byte ∈ flatC LG := by decide +kernel
theorem kx_le : ∀ i, i < 6 → Cond.eq (.length (.field (tmS i) "java/lang/String" "value" "[B")) (.int (Int32.ofNat (sx_ln.getD i 0))) ∈ flatC LG := by decide +kernel
theorem kx_el : ∀ i, i < 6 → ∀ j, j < sx_ln.getD i 0 → Cond.eq (.elem (.field (tmS i) "java/lang/String" "value" "[B") (.int (Int32.ofNat j))) (.int ((sx_by.getD i []).getD j 0)) ∈ flatC LG := by decide +kernel
theorem kx_ne : ∀ i, i < 6 → ∀ j, j < 6 → i ≠ j → Cond.not (Cond.eq (tmS i) (tmS j)) ∈ flatC LG ∨ Cond.not (Cond.eq (tmS j) (tmS i)) ∈ flatC LG := by decide +kernel
theorem kx_ln : ∀ i, i < 6 → sx_ln.getD i 0 < 2 ^ 31 := by decide +kernel
theorem kx_sr : ∀ i, i < 6 → Cond.stringRef "StarChart$Reader" (sx_si i) (sx_tx i) ∈ lw_tbl := by decide +kernel
def tmT (c n : String) : Term := .static c n "[I"
theorem kx_m0 : Cond.arrayOf (tmT "StarChart" "TUNE_MOST") .int ∈ flatC LG := by decide +kernel
theorem kx_m1 : Cond.eq (.length (tmT "StarChart" "TUNE_MOST")) (.int (Int32.ofNat 6)) ∈ flatC LG := by decide +kernel
theorem kx_m2 : ∀ j, j < 6 → Cond.eq (.elem (tmT "StarChart" "TUNE_MOST") (.int (Int32.ofNat j))) (.int (tMost j)) ∈ flatC LG := by decide +kernel
theorem kx_f0 : Cond.arrayOf (tmT "StarChart" "TUNE_FIRST") .int ∈ flatC LG := by decide +kernel
theorem kx_f1 : Cond.eq (.length (tmT "StarChart" "TUNE_FIRST")) (.int (Int32.ofNat 6)) ∈ flatC LG := by decide +kernel
theorem kx_f2 : ∀ j, j < 6 → Cond.eq (.elem (tmT "StarChart" "TUNE_FIRST") (.int (Int32.ofNat j))) (.int (tFirst j)) ∈ flatC LG := by decide +kernel
theorem kx_w0 : Cond.arrayOf (tmT "StarChart$Trials" "SORTS_WITH") .int ∈ flatC LG := by decide +kernel
theorem kx_w1 : Cond.eq (.length (tmT "StarChart$Trials" "SORTS_WITH")) (.int (Int32.ofNat 3)) ∈ flatC LG := by decide +kernel
theorem kx_w2 : ∀ j, j < 3 → Cond.eq (.elem (tmT "StarChart$Trials" "SORTS_WITH") (.int (Int32.ofNat j))) (.int (tWith j)) ∈ flatC LG := by decide +kernel
theorem kx_cs : Cond.eq (.static "java/lang/String" "COMPACT_STRINGS" "Z") (.int 1) ∈ flatC LG := by decide +kernel
theorem kx_sf : Cond.isRef (.static "jdk/internal/util/Preconditions" "SIOOBE_FORMATTER" "Ljava/util/function/BiFunction;") ∈ flatC LG := by decide +kernel
theorem kx_ls : Cond.laysStatic "StarChart" "TUNE_MOST" "[I" ∈ lw_tbl ∧ Cond.laysStatic "StarChart" "TUNE_FIRST" "[I" ∈ lw_tbl ∧ Cond.laysStatic "StarChart$Trials" "SORTS_WITH" "[I" ∈ lw_tbl ∧ Cond.laysStatic "java/lang/String" "COMPACT_STRINGS" "Z" ∈ lw_tbl ∧ Cond.laysStatic "jdk/internal/util/Preconditions" "SIOOBE_FORMATTER" "Ljava/util/function/BiFunction;" ∈ lw_tbl := by decide +kernel
theorem kx_in : Cond.initialized "StarChart" ∈ lw_tbl ∧ Cond.initialized "StarChart$Trials" ∈ lw_tbl ∧ Cond.initialized "java/lang/String" ∈ lw_tbl ∧ Cond.initialized "jdk/internal/util/Preconditions" ∈ lw_tbl := by decide +kernel
theorem kx_nw : ∀ w ∈ sx_nests, w ∈ lw_tbl ∧ w.onTables = true := by decide +kernel
theorem kx_start {b : Nat} {s : State} (hgv : (Jvm.Cond.and given_1 narrow_1).before #[Value.ref b] s = true) (hts : ∀ w ∈ lw_tbl, w.before #[Value.ref b] s = true) : ∃ ad : Nat → Nat, KX ad (fun q => s.heap.size ≤ q) s s.heap := by
  have hs : ∀ c ∈ flatC LG, c.before #[Value.ref b] s = true := flat_of_before LG hgv
  have hA : ∀ a : Nat, a < s.heap.size → ¬ (fun q => s.heap.size ≤ q) a := fun a h => Nat.not_le.mpr h
  obtain ⟨adK, adV, hS, hE⟩ := vk_Sof (args := #[Value.ref b]) (s := s) (N := 6) (tm := tmS) (len := sx_ln) (byt := sx_by) (A := fun q => s.heap.size ≤ q) kx_ln (fun i hi => hs _ (kx_ex i hi)) (fun i hi => hs _ (kx_co i hi)) (fun i hi => hs _ (kx_ar i hi)) (fun i hi => hs _ (kx_le i hi)) (fun i hi j hj => hs _ (kx_el i hi j hj)) (fun i j hi hj hij => (kx_ne i hi j hj hij).imp (fun z => hs _ z) (fun z => hs _ z)) hA
  obtain ⟨t1, e1, T1⟩ := va_Tof (args := #[Value.ref b]) (s := s) (N := 6) (f := fun j => .int (tMost j)) (A := fun q => s.heap.size ≤ q) (by decide) (hs _ kx_m0) (va_eqt (hs _ kx_m1)) (fun j hj => va_eqt (hs _ (kx_m2 j hj))) hA
  obtain ⟨t2, e2, T2⟩ := va_Tof (args := #[Value.ref b]) (s := s) (N := 3) (f := fun j => .int (tWith j)) (A := fun q => s.heap.size ≤ q) (by decide) (hs _ kx_w0) (va_eqt (hs _ kx_w1)) (fun j hj => va_eqt (hs _ (kx_w2 j hj))) hA
  obtain ⟨t3, e3, T3⟩ := va_Tof (args := #[Value.ref b]) (s := s) (N := 6) (f := fun j => .int (tFirst j)) (A := fun q => s.heap.size ≤ q) (by decide) (hs _ kx_f0) (va_eqt (hs _ kx_f1)) (fun j hj => va_eqt (hs _ (kx_f2 j hj))) hA
  have Z1 := va_Zof (A := fun q => s.heap.size ≤ q) (hts _ kx_ls.1) (hts _ kx_in.1) e1 hA
  have Z2 := va_Zof (A := fun q => s.heap.size ≤ q) (hts _ kx_ls.2.2.1) (hts _ kx_in.2.1) e2 hA
  have Z3 := va_Zof (A := fun q => s.heap.size ≤ q) (hts _ kx_ls.2.1) (hts _ kx_in.1) e3 hA
  have Z4 := va_Zof (A := fun q => s.heap.size ≤ q) (hts _ kx_ls.2.2.2.1) (hts _ kx_in.2.2.1) (va_eqt (hs _ kx_cs)) hA
  have Z5 := va_Zqof (A := fun q => s.heap.size ≤ q) (hts _ kx_ls.2.2.2.2) (hts _ kx_in.2.2.2) (hs _ kx_sf) hA
  obtain ⟨t4, Z6⟩ : ∃ t4 : Nat, va_Z "jdk/internal/util/Preconditions" "SIOOBE_FORMATTER" "Ljava/util/function/BiFunction;" .null (fun q => s.heap.size ≤ q) s s.heap ∨ va_Z "jdk/internal/util/Preconditions" "SIOOBE_FORMATTER" "Ljava/util/function/BiFunction;" (.ref t4) (fun q => s.heap.size ≤ q) s s.heap := by
    rcases Z5 with z | ⟨t, z⟩
    · exact ⟨0, Or.inl z⟩
    · exact ⟨t, Or.inr z⟩
  obtain ⟨ad, had⟩ : ∃ ad : Nat → Nat, ad = fun k => if k = 1010 then t1 else if k = 1011 then t2 else if k = 1012 then t3 else if k = 1020 then t4 else if 1100 ≤ k then adV (k - 1100) else adK (k - 1000) := ⟨_, rfl⟩
  have a1 : ad 1010 = t1 := by rw [had]; rfl
  have a2 : ad 1011 = t2 := by rw [had]; rfl
  have a3 : ad 1012 = t3 := by rw [had]; rfl
  have a4 : ad 1020 = t4 := by rw [had]; rfl
  have a5 : ∀ i, i < 6 → ad (1000 + i) = adK i := fun i hi => by
    rw [had]
    simp only
    rw [if_neg (by omega), if_neg (by omega), if_neg (by omega), if_neg (by omega), if_neg (by omega), Nat.add_sub_cancel_left]
  have a6 : ∀ i, ad (1100 + i) = adV i := fun i => by
    rw [had]
    simp only
    rw [if_neg (by omega), if_neg (by omega), if_neg (by omega), if_neg (by omega), if_pos (by omega), Nat.add_sub_cancel_left]
  refine ⟨ad, ⟨fun i hi => ?_, fun i j hi hj e => ?_⟩, fun i hi => ?_, ?_, ?_, ?_, Z4, ?_, fun w hw => va_Nw.of (kx_nw w hw).2 (hts _ (kx_nw w hw).1)⟩
  · have h := hS.1 i hi
    rw [← a5 i hi, ← a6 i] at h
    exact h
  · have e : ad (1000 + i) = ad (1000 + j) := e
    rw [a5 i hi, a5 j hj] at e
    exact hS.2 i j hi hj e
  · rw [a5 i hi]
    exact vk_R.of (hts _ (kx_sr i hi)) (hE i hi)
  · rw [a1]; exact ⟨Z1, T1⟩
  · rw [a2]; exact ⟨Z2, T2⟩
  · rw [a3]; exact ⟨Z3, T3⟩
  · rw [a4]; exact Z6
