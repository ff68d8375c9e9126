/-! A DAY: what the rows say, on both sides -/
theorem sA_eq (q : SQ) (o : Nat) (f : Nat → Int32) : (sA q o f).1 o = f := by funext b; simp [sA]
theorem sA_ne (q : SQ) {o a : Nat} (f : Nat → Int32) (h : a ≠ o) : (sA q o f).1 a = q.1 a := by funext b; simp [sA, h]
theorem sA_two (q : SQ) (o : Nat) (f : Nat → Int32) : (sA q o f).2 = q.2 := rfl
theorem sI_two (q : SQ) (o k : Nat) (v : Int32) : (sI q o k v).2 = q.2 := rfl
theorem sI_sA (q : SQ) (o k : Nat) (f : Nat → Int32) (v : Int32) : sI (sA q o f) o k v = sA q o (upd f k v) := by
  apply Prod.ext
  · funext a b
    by_cases h : a = o
    · by_cases h2 : b = k <;> simp [sI, sA, upd, h, h2]
    · simp [sI, sA, h]
  · rfl
theorem sA_self (q : SQ) (o : Nat) : sA q o (q.1 o) = q := by
  apply Prod.ext
  · funext a b
    by_cases h : a = o
    · simp [sA, h]
    · simp [sA, h]
  · rfl
theorem sA_sA (q : SQ) (o : Nat) (f g : Nat → Int32) : sA (sA q o f) o g = sA q o g := by
  apply Prod.ext
  · funext a b
    by_cases h : a = o <;> simp [sA, h]
  · rfl
theorem sI_as (q : SQ) (o k : Nat) (v : Int32) : sI q o k v = sA q o (upd (q.1 o) k v) := by
  rw [← sI_sA, sA_self]
theorem gI_def (q : SQ) (o k : Nat) : gI q o k = q.1 o k := by cases q; rfl
theorem upd_eq (f : Nat → Int32) (k : Nat) (v : Int32) : upd f k v k = v := by simp [upd]
theorem upd_ne (f : Nat → Int32) {k j : Nat} (v : Int32) (h : j ≠ k) : upd f k v j = f j := by simp [upd, h]
def mm_within (v : Int32) : Int32 := if 0 ≤ v then (if v ≤ 100 then v else 100) else 0
def mm_like (T : Nat → Int32) (bare : Int32) (U S : Nat → Int32) (c k : Nat) (day : Int32) : Int32 :=
  mm_within (if T 38 = 1 then (if mm_stars T bare S c k day ≤ 0 then S (3 + 3 * c) + (if mm_pages T c k ≤ 0 then 0 else U 1) else S (3 + 3 * c) + (if mm_pages T c k ≤ 0 then 0 else U 1) - U 2 * mm_stars T bare S c k day / mm_want T bare S c k day)
    else (if mm_pages T c k * mm_given T bare k day ≤ 0 then S (3 + 3 * c) + (if mm_pages T c k ≤ 0 then 0 else U 1) else S (3 + 3 * c) + (if mm_pages T c k ≤ 0 then 0 else U 1) + U 3))
def mm_put (S : Nat → Int32) (c : Nat) (a b d : Int32) : Nat → Int32 := upd (upd (upd S (3 + 3 * c) a) (3 + 3 * c + 1) b) (3 + 3 * c + 2) d
def mm_kids (T : Nat → Int32) (bare : Int32) (U : Nat → Int32) (day : Int32) (S : Nat → Int32) : Nat → (Nat → Int32) × Int32 × Int32
  | 0 => (S, 0, 0)
  | c + 1 =>
    let p := mm_kids T bare U day S c
    let k := mm_choice T bare (U 0) p.1 c day
    if k = -9 then p else
      (mm_put p.1 c (mm_like T bare U p.1 c k.toNatClampNeg day) (p.1 (3 + 3 * c + 1) + mm_pages T c k.toNatClampNeg) (p.1 (3 + 3 * c + 2) + mm_pages T c k.toNatClampNeg * mm_given T bare k.toNatClampNeg day),
        p.2.1 + mm_pages T c k.toNatClampNeg, p.2.2 + mm_pages T c k.toNatClampNeg * mm_given T bare k.toNatClampNeg day)
def mm_any (T : Nat → Int32) (bare day : Int32) : Nat → Int32
  | 0 => 0
  | k + 1 => if mm_given T bare k day ≤ 0 then mm_any T bare day k else 1
def mm_wear (T : Nat → Int32) (U : Nat → Int32) (all : Int32) : Int32 := if T 40 = 0 then 0 else U 4 * all / (10 * T 40)
def mm_day (T : Nat → Int32) (bare : Int32) (U S : Nat → Int32) : (Nat → Int32) × Int32 :=
  let p := mm_kids T bare U (S 0) S (mm_nc T)
  (upd (upd p.1 1 (mm_within (p.1 1 - mm_wear T U p.2.2 + (if mm_any T bare (S 0) (mm_ns T) = 0 then U 5 else 0)))) 0 (p.1 0 + 1), p.2.1)
def okS (T S : Nat → Int32) : Prop := inN (S 1) 0 100 ∧ ∀ c, c < mm_nc T → inN (S (3 + 3 * c)) 0 100
/-! numbers -/
theorem inN.mul {x y : Int32} {n w : Nat} (hx : inN x 0 n) (hy : inN y 0 w) : inN (x * y) 0 (n * w) := by
  obtain ⟨a, -, h1, rfl⟩ := hx
  obtain ⟨b, -, h2, rfl⟩ := hy
  exact ⟨a * b, Nat.zero_le _, Nat.mul_le_mul h1 h2, pk_mul a b⟩
theorem inN.div {x : Int32} {n d : Nat} (hx : inN x 0 n) (hn : n < 2 ^ 31) (h0 : 0 < d) (hd : d < 2 ^ 31) : inN (x / nI d) 0 (n / d) := by
  obtain ⟨a, -, h1, rfl⟩ := hx
  exact ⟨a / d, Nat.zero_le _, Nat.div_le_div_right h1, pk_div (by omega) h0 hd⟩
theorem inN.le {x : Int32} {a n w : Nat} (hx : inN x a n) (h : n ≤ w) : inN x 0 w := by
  obtain ⟨j, h1, h2, rfl⟩ := hx
  exact ⟨j, Nat.zero_le _, by omega, rfl⟩
theorem inN.lo {x : Int32} {a n : Nat} (hx : inN x a n) : inN x 0 n := hx.le (Nat.le_refl _)
theorem inN.add {x y : Int32} {n w : Nat} (hx : inN x 0 n) (hy : inN y 0 w) : inN (x + y) 0 (n + w) := by
  obtain ⟨a, -, h1, rfl⟩ := hx
  obtain ⟨b, -, h2, rfl⟩ := hy
  exact ⟨a + b, Nat.zero_le _, Nat.add_le_add h1 h2, nI_add a b⟩
theorem pages_in {T : Nat → Int32} (hT : okT T) {c k : Nat} (hc : c < mm_nc T) (hk : k < mm_ns T) : inN (mm_pages T c k) 0 54 := by
  obtain ⟨a, a1, a2, ea⟩ := (hT.2.2.2.2.2.2.1 c hc).2.1
  obtain ⟨h, h1, h2, eh⟩ := (hT.2.2.2.2.2.2.2 k hk).1
  rw [mm_pages, ea, eh]
  refine ⟨6 * a / h, Nat.zero_le _, ?_, ?_⟩
  · exact Nat.le_trans (Nat.div_le_self _ _) (by omega)
  · rw [show (6 : Int32) = nI 6 from rfl, pk_mul, pk_div (by omega) (by omega) (by omega)]
theorem given_in {T : Nat → Int32} (hT : okT T) {bare : Int32} {k : Nat} {day : Int32} (hk : k < mm_ns T) : inN (mm_given T bare k day) 0 9 := by
  obtain ⟨u, u1, u2, eu⟩ := hT.2.2.2.1
  obtain ⟨w, w1, w2, ew⟩ := hT.2.2.2.2.1
  obtain ⟨p, p1, p2, ep⟩ := (hT.2.2.2.2.2.2.2 k hk).2.2
  have z : inN (0 : Int32) 0 9 := ⟨0, by omega, by omega, rfl⟩
  rw [mm_given, eu, ew, ep]
  split
  · split
    · exact z
    · split
      · rename_i _ hd
        split
        · rename_i hu
          rw [nI_add] at hd
          rcases pk_ix day (n := u + w) (by omega) with q | q | ⟨d, q, rfl⟩
          · exact absurd hu (by
              intro h
              have a1 := Int32.le_iff_toInt_le.mp h
              have a2 := Int32.lt_iff_toInt_lt.mp q
              rw [nI_toInt (by omega)] at a1
              rw [Int32.toInt_zero] at a2
              omega)
          · exact absurd hd (by
              intro h
              have a1 := Int32.le_iff_toInt_le.mp q
              have a2 := Int32.lt_iff_toInt_lt.mp h
              omega)
          · have hu : u ≤ d := (nI_leI (by omega) (by omega)).mp hu
            rw [nI_add, pk_sub (by omega), pk_mul, px_p1, pk_div (by
              have : p * (u + w - d) ≤ 9 * 20 := Nat.mul_le_mul p2 (by omega)
              omega) (by omega) (by omega)]
            refine ⟨_, Nat.zero_le _, ?_, rfl⟩
            have h1 : p * (u + w - d) ≤ 9 * (w + 1) := Nat.mul_le_mul p2 (by omega)
            exact Nat.div_le_of_le_mul (by rw [Nat.mul_comm (w + 1) 9]; exact h1)
        · exact ⟨p, by omega, by omega, rfl⟩
      · exact z
  · exact z
theorem joys_in {T S : Nat → Int32} (hT : okT T) (hS : okS T S) {c k : Nat} (hc : c < mm_nc T) (hk : k < mm_ns T) : inN (mm_joys T S c k) 0 90 :=
  (((hT.2.2.2.2.2.2.2 k hk).2.1.mul (hS.2 c hc)).div (d := 10) (by omega) (by omega) (by omega))
theorem stars_in {T S : Nat → Int32} (hT : okT T) (hS : okS T S) {bare : Int32} {c k : Nat} {day : Int32} (hc : c < mm_nc T) (hk : k < mm_ns T) : inN (mm_stars T bare S c k day) 0 4374 :=
  ((((pages_in hT hc hk).mul (given_in hT hk)).mul (hT.2.2.2.2.2.2.1 c hc).2.2).mul hS.1).div (d := 100) (by omega) (by omega) (by omega)
theorem want_pos {T S : Nat → Int32} (hT : okT T) (hS : okS T S) {bare : Int32} {c k : Nat} {day : Int32} (hc : c < mm_nc T) (hk : k < mm_ns T) (h1 : T 38 = 1) (h : ¬ mm_stars T bare S c k day ≤ 0) : ¬ mm_want T bare S c k day ≤ 0 := by
  obtain ⟨a, -, a2, ea⟩ := joys_in hT hS hc hk
  obtain ⟨b, -, b2, eb⟩ := stars_in (bare := bare) (day := day) hT hS hc hk
  rw [mm_want, if_pos h1, ea, eb, nI_add]
  rw [eb] at h
  rcases Nat.eq_zero_or_pos b with rfl | hb
  · exact absurd (nI_le (a := 0) (b := 0) (by omega) (by omega)) h
  · exact nI_nle (by omega) (by omega)
theorem pos_ne {x : Int32} (h : ¬ x ≤ 0) : ¬ x = 0 := fun e => h (by rw [e]; exact Int32.le_refl 0)
theorem within_in (v : Int32) : inN (mm_within v) 0 100 := by
  rw [mm_within]
  split
  · rename_i h
    split
    · rename_i h2
      obtain ⟨j, hj, e⟩ := nI_of2 (M := 100) (n := 100) (by decide) (fun z => Int32.not_lt.mpr h z) h2
      exact ⟨j, by omega, hj, e⟩
    · exact ⟨100, by omega, by omega, rfl⟩
  · exact ⟨0, by omega, by omega, rfl⟩
/-- a choice is none or a sort -/
theorem ch_in (W : Nat → Int32) (idle : Int32) : ∀ n, n < 2 ^ 31 → (mm_ch W idle n).1 = -9 ∨ ∃ k, k < n ∧ (mm_ch W idle n).1 = nI k
  | 0, _ => Or.inl rfl
  | n + 1, h => by
    rw [mm_ch]
    split
    · rcases ch_in W idle n (by omega) with q | ⟨k, q1, q2⟩
      · exact Or.inl q
      · exact Or.inr ⟨k, by omega, q2⟩
    · exact Or.inr ⟨n, by omega, rfl⟩
theorem choice_in {T : Nat → Int32} (hT : okT T) (bare idle : Int32) (S : Nat → Int32) (c : Nat) (day : Int32) : mm_choice T bare idle S c day = -9 ∨ ∃ k, k < mm_ns T ∧ mm_choice T bare idle S c day = nI k := ch_in _ _ _ (by have := hT.ns.2; omega)
theorem nI_m9 {k : Nat} (h : k < 4) : ¬ nI k = -9 := by
  intro e
  have := congrArg Int32.toInt e
  rw [nI_toInt (by omega)] at this
  have h9 : (-9 : Int32).toInt = -9 := by decide
  omega
/-- a child's day touches its own three places alone -/
theorem kids_far {T : Nat → Int32} {bare : Int32} {U : Nat → Int32} {day : Int32} {S : Nat → Int32} : ∀ (n j : Nat), (j < 3 ∨ 3 + 3 * n ≤ j) → (mm_kids T bare U day S n).1 j = S j
  | 0, _, _ => rfl
  | n + 1, j, h => by
    have ih := kids_far (T := T) (bare := bare) (U := U) (day := day) (S := S) n j (by omega)
    rw [mm_kids]
    split
    · exact ih
    · simp only [mm_put]
      rw [upd_ne _ _ (by omega), upd_ne _ _ (by omega), upd_ne _ _ (by omega)]
      exact ih
theorem kids_ok {T : Nat → Int32} {bare : Int32} {U : Nat → Int32} {day : Int32} {S : Nat → Int32} (hS : okS T S) : ∀ (n : Nat), okS T (mm_kids T bare U day S n).1
  | 0 => hS
  | n + 1 => by
    have ih := kids_ok (T := T) (bare := bare) (U := U) (day := day) hS n
    rw [mm_kids]
    split
    · exact ih
    · refine ⟨?_, fun c hc => ?_⟩
      · simp only [mm_put]
        rw [upd_ne _ _ (by omega), upd_ne _ _ (by omega), upd_ne _ _ (by omega)]
        exact ih.1
      · simp only [mm_put]
        rw [upd_ne _ _ (by omega), upd_ne _ _ (by omega)]
        by_cases e : c = n
        · subst e
          rw [upd_eq]
          exact within_in _
        · rw [upd_ne _ _ (by omega)]
          exact ih.2 c hc
theorem day_ok {T : Nat → Int32} {bare : Int32} {U S : Nat → Int32} (hS : okS T S) : okS T (mm_day T bare U S).1 := by
  have h := kids_ok (T := T) (bare := bare) (U := U) (day := S 0) hS (mm_nc T)
  refine ⟨?_, fun c hc => ?_⟩
  · simp only [mm_day]
    rw [upd_ne _ _ (by omega), upd_eq]
    exact within_in _
  · simp only [mm_day]
    rw [upd_ne _ _ (by omega), upd_ne _ _ (by omega)]
    exact h.2 c hc
theorem day_0 {T : Nat → Int32} {bare : Int32} {U S : Nat → Int32} : (mm_day T bare U S).1 0 = S 0 + 1 := by
  simp only [mm_day]
  rw [upd_eq, kids_far _ _ (by omega)]
/-! the model's day -/
section MDAY
variable {m : SQ}
theorem Mwithin (v : Int32) : F7_within v m = some (mm_within v, m) := by
  unfold F7_within mm_within
  simp only [px_ite]
theorem Mday227 {r : Nat} {day all pages : Int32} {S : Nat → Int32} (hr : 3 < r) (hT : okT (m.1 2)) :
    F7_goesBy_227 r day all pages 0 0 (sA m r S) = some (pages, sA m r (upd (upd S 1 (mm_within (S 1 - mm_wear (m.1 2) (m.1 3) all + (if mm_any (m.1 2) (m.1 0 16) day (mm_ns (m.1 2)) = 0 then m.1 3 5 else 0)))) 0 (S 0 + 1))) := by
  obtain ⟨e41, h41⟩ := hT.ns
  obtain ⟨e40, h40⟩ := hT.nc
  have r2 : (sA m r S).1 2 = m.1 2 := sA_ne _ _ (by omega)
  have r3 : (sA m r S).1 3 = m.1 3 := sA_ne _ _ (by omega)
  have r0 : (sA m r S).1 0 = m.1 0 := sA_ne _ _ (by omega)
  have rr : (sA m r S).1 r = S := sA_eq _ _ _
  unfold F7_goesBy_227
  refine Ev.up (S := fun k => (mm_any (m.1 2) (m.1 0 16) day k, nI k, sA m r S)) (N := mm_ns (m.1 2)) (fun k hk => ?_) ?_ (FU_gt (by omega)) rfl
  · have hg := Mgiven (m := sA m r S) (k := k) (day := day) (by omega) (by rw [r2]; exact hT.2.2.2.2.1)
    rw [r2, r0] at hg
    have h1 : ¬ gI (sA m r S) 2 41 ≤ nI k := by
      rw [gI_def, r2, e41]
      exact nI_ge hk (by omega)
    simp only [F7_goesBy_227b, F7_goesBy_256, if_neg h1, hg, sx_let, Option.bind_some, Option.map_some, mm_any, nI_1]
    have hb : mm_any (m.1 2) (m.1 0 16) day k = 0 ∨ mm_any (m.1 2) (m.1 0 16) day k = 1 := by
      clear hg h1 hk
      induction k with
      | zero => exact Or.inl rfl
      | succ k ih =>
        rw [mm_any]
        split
        · exact ih
        · exact Or.inr rfl
    split
    · rcases hb with e | e <;> rw [e] <;> rfl
    · rcases hb with e | e <;> rw [e] <;> rfl
  · have h1 : gI (sA m r S) 2 41 ≤ nI (mm_ns (m.1 2)) := by
      rw [gI_def, r2, e41]
      exact nI_le (by omega) (by omega)
    have fin : ∀ (w : Int32) (b : Int32), F7_goesBy_298 r pages b w (sA m r S) = some (pages, sA m r (upd (upd S 1 (mm_within (S 1 - w + (if b = 0 then m.1 3 5 else 0)))) 0 (S 0 + 1))) := by
      intro w b
      have fin2 : ∀ z : Int32, F7_goesBy_323 r pages z (gI (sA m r S) r 1 - w) 1 (sA m r S) = some (pages, sA m r (upd (upd S 1 (mm_within (S 1 - w + z))) 0 (S 0 + 1))) := by
        intro z
        have hi : sx_ix (1 : Int32) 27 = true := by decide
        have hc : (1 : Int32).toNatClampNeg = 1 := by decide
        unfold F7_goesBy_323
        simp only [Mwithin, sx_let, Option.bind_some, Option.map_some, hi, if_true, hc, sI_sA, gI_def, sA_eq]
        rw [upd_ne _ _ (show (0 : Nat) ≠ 1 by omega)]
      unfold F7_goesBy_298
      rw [fin2, fin2]
      by_cases hb : b = 0
      · rw [if_pos hb, if_pos hb, gI_def, r3]
      · rw [if_neg hb, if_neg hb]
    simp only [F7_goesBy_227b, if_pos h1, fin]
    rw [gI_def, gI_def, r2, r3]
    by_cases hz : m.1 2 40 = 0
    · rw [if_pos hz]
      simp only [mm_wear, if_pos hz]
    · rw [if_neg hz]
      have hn : sx_n0 (10 * m.1 2 40) = true := by
        apply sx_n0_of
        rw [e40] at hz ⊢
        rw [show (10 : Int32) = nI 10 from rfl, pk_mul]
        rcases Nat.eq_zero_or_pos (mm_nc (m.1 2)) with e | e
        · rw [e] at hz
          exact absurd nI_0 hz
        · exact nI_ne0 (by omega) (by omega)
      simp only [hn, if_true, mm_wear, if_neg hz]
theorem Mday {r : Nat} (hr : 3 < r) (hT : okT (m.1 2)) (hS : okS (m.1 2) (m.1 r)) :
    F7_goesBy r m = some ((mm_day (m.1 2) (m.1 0 16) (m.1 3) (m.1 r)).2, sA m r (mm_day (m.1 2) (m.1 0 16) (m.1 3) (m.1 r)).1) := by
  obtain ⟨e40, h40⟩ := hT.nc
  obtain ⟨e41, h41⟩ := hT.ns
  unfold F7_goesBy F7_goesBy_12
  simp only [sx_let, Option.bind_some, Option.map_some, gI_def]
  refine Ev.up (S := fun c => ((mm_kids (m.1 2) (m.1 0 16) (m.1 3) (m.1 r 0) (m.1 r) c).2.2, (mm_kids (m.1 2) (m.1 0 16) (m.1 3) (m.1 r 0) (m.1 r) c).2.1, nI c, sA m r (mm_kids (m.1 2) (m.1 0 16) (m.1 3) (m.1 r 0) (m.1 r) c).1)) (N := mm_nc (m.1 2)) (fun c hc => ?_) ?_ (FU_gt (by omega)) (by rw [mm_kids, sA_self, nI_0])
  · have hok := kids_ok (bare := m.1 0 16) (U := m.1 3) (day := m.1 r 0) hS c
    have hun : mm_kids (m.1 2) (m.1 0 16) (m.1 3) (m.1 r 0) (m.1 r) (c + 1) = _ := mm_kids.eq_2 (m.1 2) (m.1 0 16) (m.1 3) (m.1 r 0) (m.1 r) c
    generalize hp : mm_kids (m.1 2) (m.1 0 16) (m.1 3) (m.1 r 0) (m.1 r) c = p at hok hun ⊢
    obtain ⟨S, pg, al⟩ := p
    simp only [] at hok hun ⊢
    have r2 : (sA m r S).1 2 = m.1 2 := sA_ne _ _ (by omega)
    have r3 : (sA m r S).1 3 = m.1 3 := sA_ne _ _ (by omega)
    have r0 : (sA m r S).1 0 = m.1 0 := sA_ne _ _ (by omega)
    have rr : (sA m r S).1 r = S := sA_eq _ _ _
    have h1 : ¬ gI (sA m r S) 2 40 ≤ nI c := by
      rw [gI_def, r2, e40]
      exact nI_ge hc (by omega)
    have hT2 : okT ((sA m r S).1 2) := by rw [r2]; exact hT
    have hch := Mchoice (m := sA m r S) (r := r) (c := c) (day := m.1 r 0) (by omega) hT2
    rw [r2, r3, r0, rr] at hch
    simp only [F7_goesBy_12b, if_neg h1, hch, sx_let, Option.bind_some, Option.map_some]
    rcases choice_in hT (m.1 0 16) (m.1 3 0) S c (m.1 r 0) with e | ⟨k, hk, e⟩
    · rw [e] at hun ⊢
      rw [if_pos rfl] at hun
      simp only [if_true, F7_goesBy_215, sx_let, Option.bind_some, Option.map_some, nI_1, hun]
    · rw [e] at hun ⊢
      have hk9 := nI_m9 (show k < 4 by omega)
      rw [if_neg hk9, nI_clamp (by omega)] at hun
      have hh := (hT.2.2.2.2.2.2.2 k hk).1.ne0 (by omega) (by omega)
      have hpg := Mpages (m := sA m r S) (c := c) (k := k) (by omega) (by omega) (by rw [r2]; exact hh)
      have hgv := Mgiven (m := sA m r S) (k := k) (day := m.1 r 0) (by omega) hT2.2.2.2.2.1
      have hst := Mstars (m := sA m r S) (r := r) (c := c) (k := k) (day := m.1 r 0) (by omega) (by omega) (by rw [r2]; exact hh) hT2.2.2.2.2.1
      have hwa := Mwant (m := sA m r S) (r := r) (c := c) (k := k) (day := m.1 r 0) (by omega) (by omega) (by rw [r2]; exact hh) hT2.2.2.2.2.1
      rw [r2] at hpg
      rw [r2, r0] at hgv
      rw [r2, r0, rr] at hst hwa
      have at0 : (3 : Int32) + 3 * nI c = nI (3 + 3 * c) := by rw [px_m3, px_a3]
      have fin : ∀ L : Int32, F7_goesBy_172 r (m.1 r 0) al pg (nI c) (mm_pages (m.1 2) c k) (mm_pages (m.1 2) c k * mm_given (m.1 2) (m.1 0 16) k (m.1 r 0)) (nI (3 + 3 * c)) L (sA m r S) = some (.inl (al + mm_pages (m.1 2) c k * mm_given (m.1 2) (m.1 0 16) k (m.1 r 0), pg + mm_pages (m.1 2) c k, nI (c + 1), sA m r (mm_put S c (mm_within L) (S (3 + 3 * c + 1) + mm_pages (m.1 2) c k) (S (3 + 3 * c + 2) + mm_pages (m.1 2) c k * mm_given (m.1 2) (m.1 0 16) k (m.1 r 0))))) := by
        intro L
        unfold F7_goesBy_172 F7_goesBy_215
        simp (disch := omega) only [Mwithin, sx_let, Option.bind_some, Option.map_some, Int32.add_zero, px_m3, px_a3, px_a24, px_a36, px_a42, px_m27, px_p1, px_p2, px_p3, nI_add, nI_clamp, sx_ixN, if_true, Bool.false_eq_true, if_false, sI_sA, gI_def, sA_eq, upd_ne, mm_put]
      simp only [if_neg hk9, hpg, hgv, hst, sx_let, Option.bind_some, Option.map_some, at0]
      have hix : sx_ix (nI (3 + 3 * c)) 27 = true := sx_ixN (by omega) (by omega)
      have hcl : (nI (3 + 3 * c)).toNatClampNeg = 3 + 3 * c := nI_clamp (by omega)
      have mid : ∀ z : Int32, F7_goesBy_102 r (m.1 r 0) al pg (nI c) (nI k) (mm_pages (m.1 2) c k) (mm_pages (m.1 2) c k * mm_given (m.1 2) (m.1 0 16) k (m.1 r 0)) (mm_stars (m.1 2) (m.1 0 16) S c k (m.1 r 0)) (nI (3 + 3 * c)) z (S (3 + 3 * c)) (sA m r S) =
          some (.inl (al + mm_pages (m.1 2) c k * mm_given (m.1 2) (m.1 0 16) k (m.1 r 0), pg + mm_pages (m.1 2) c k, nI (c + 1), sA m r (mm_put S c (mm_within (if m.1 2 38 = 1 then (if mm_stars (m.1 2) (m.1 0 16) S c k (m.1 r 0) ≤ 0 then S (3 + 3 * c) + z else S (3 + 3 * c) + z - m.1 3 2 * mm_stars (m.1 2) (m.1 0 16) S c k (m.1 r 0) / mm_want (m.1 2) (m.1 0 16) S c k (m.1 r 0)) else (if mm_pages (m.1 2) c k * mm_given (m.1 2) (m.1 0 16) k (m.1 r 0) ≤ 0 then S (3 + 3 * c) + z else S (3 + 3 * c) + z + m.1 3 3))) (S (3 + 3 * c + 1) + mm_pages (m.1 2) c k) (S (3 + 3 * c + 2) + mm_pages (m.1 2) c k * mm_given (m.1 2) (m.1 0 16) k (m.1 r 0))))) := by
        intro z
        unfold F7_goesBy_102 F7_goesBy_146
        simp only [sx_let, Option.bind_some, Option.map_some, gI_def, r2, r3, hwa, fin]
        rcases hT.2.2.2.2.2.1 with h38 | h38
        · rw [h38]
          simp only [if_true, show ¬ ((0 : Int32) = 1) from by decide, if_false]
          split <;> rfl
        · rw [h38]
          simp only [if_true, show ¬ ((1 : Int32) = 0) from by decide, if_false]
          by_cases hs : mm_stars (m.1 2) (m.1 0 16) S c k (m.1 r 0) ≤ 0
          · rw [if_pos hs, if_pos hs]
          · rw [if_neg hs, if_neg hs, if_pos (sx_n0_of (pos_ne (want_pos hT hok hc hk h38 hs)))]
      simp only [hix, if_true, hcl, gI_def, r3, rr, mid]
      rw [hun]
      simp only [mm_like]
      split <;> rfl
  · have h1 : gI (sA m r (mm_kids (m.1 2) (m.1 0 16) (m.1 3) (m.1 r 0) (m.1 r) (mm_nc (m.1 2))).1) 2 40 ≤ nI (mm_nc (m.1 2)) := by
      rw [gI_def, sA_ne _ _ (by omega), e40]
      exact nI_le (by omega) (by omega)
    simp only [F7_goesBy_12b, if_pos h1, Mday227 hr hT]
    rfl
end MDAY
