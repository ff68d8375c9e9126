/-! DAYS, ONE AFTER ANOTHER; SHEETS THAT GIVE ALIKE -/
def mm_days (T : Nat → Int32) (bare : Int32) (U S : Nat → Int32) : Nat → Nat → Int32
  | 0 => S
  | n + 1 => (mm_day T bare U (mm_days T bare U S n)).1
theorem days_ok {T : Nat → Int32} {bare : Int32} {U S : Nat → Int32} (hS : okS T S) : ∀ n, okS T (mm_days T bare U S n)
  | 0 => hS
  | n + 1 => day_ok (days_ok hS n)
theorem days_0 {T : Nat → Int32} {bare : Int32} {U S : Nat → Int32} (h : S 0 = nI 0) : ∀ n, mm_days T bare U S n 0 = nI n
  | 0 => h
  | n + 1 => by rw [mm_days, day_0, days_0 h n, px_p1]
theorem begin_z (T S : Nat → Int32) : mm_begin T S 0 = nI 0 := by rw [(begin_0 T S).1, nI_0]
def Al (T T2 : Nat → Int32) (b b2 : Int32) : Prop := (∀ j, j < 42 → ¬ (j = 26 ∨ j = 29 ∨ j = 32 ∨ j = 35 ∨ j = 36 ∨ j = 37 ∨ j = 39) → T2 j = T j) ∧ ∀ k day, k < 4 → mm_given T2 b2 k day = mm_given T b k day
section AL
variable {T T2 : Nat → Int32} {b b2 : Int32}
theorem Al.nc (h : Al T T2 b b2) : mm_nc T2 = mm_nc T := by
  unfold mm_nc
  rw [h.1 40 (by omega) (by omega)]
theorem Al.ns (h : Al T T2 b b2) : mm_ns T2 = mm_ns T := by
  unfold mm_ns
  rw [h.1 41 (by omega) (by omega)]
theorem Al.pages (h : Al T T2 b b2) {c k : Nat} (hc : c < 8) (hk : k < 4) : mm_pages T2 c k = mm_pages T c k := by
  unfold mm_pages
  rw [h.1 (3 * c + 1) (by omega) (by omega), h.1 (24 + 3 * k) (by omega) (by omega)]
theorem Al.joys (h : Al T T2 b b2) {S : Nat → Int32} {c k : Nat} (hk : k < 4) : mm_joys T2 S c k = mm_joys T S c k := by
  unfold mm_joys
  rw [h.1 (24 + 3 * k + 1) (by omega) (by omega)]
theorem Al.stars (h : Al T T2 b b2) {S : Nat → Int32} {day : Int32} {c k : Nat} (hc : c < 8) (hk : k < 4) : mm_stars T2 b2 S c k day = mm_stars T b S c k day := by
  unfold mm_stars
  rw [h.pages hc hk, h.2 k day hk, h.1 (3 * c + 2) (by omega) (by omega)]
theorem Al.want (h : Al T T2 b b2) {S : Nat → Int32} {day : Int32} {c k : Nat} (hc : c < 8) (hk : k < 4) : mm_want T2 b2 S c k day = mm_want T b S c k day := by
  unfold mm_want
  rw [h.joys hk, h.stars hc hk, h.1 38 (by omega) (by omega)]
theorem ch_cong {W W2 : Nat → Int32} {idle : Int32} : ∀ n, (∀ k, k < n → W2 k = W k) → mm_ch W2 idle n = mm_ch W idle n
  | 0, _ => rfl
  | n + 1, h => by
    rw [mm_ch, mm_ch, ch_cong n (fun k hk => h k (by omega)), h n (by omega)]
theorem Al.choice (h : Al T T2 b b2) (hT : okT T) {S : Nat → Int32} {idle day : Int32} {c : Nat} (hc : c < 8) : mm_choice T2 b2 idle S c day = mm_choice T b idle S c day := by
  unfold mm_choice
  rw [h.ns, ch_cong _ (fun k hk => h.want hc (by have := hT.ns.2; omega))]
theorem Al.like (h : Al T T2 b b2) {U S : Nat → Int32} {day : Int32} {c k : Nat} (hc : c < 8) (hk : k < 4) : mm_like T2 b2 U S c k day = mm_like T b U S c k day := by
  unfold mm_like
  rw [h.pages hc hk, h.2 k day hk, h.stars hc hk, h.want hc hk, h.1 38 (by omega) (by omega)]
theorem Al.kids (h : Al T T2 b b2) (hT : okT T) {U S : Nat → Int32} {day : Int32} : ∀ n, n ≤ 8 → mm_kids T2 b2 U day S n = mm_kids T b U day S n
  | 0, _ => rfl
  | c + 1, hc => by
    rw [mm_kids, mm_kids, h.kids hT c (by omega)]
    generalize mm_kids T b U day S c = p
    obtain ⟨S2, pg, al⟩ := p
    simp only []
    rw [h.choice hT (show c < 8 by omega)]
    rcases choice_in hT b (U 0) S2 c day with e | ⟨k, hk, e⟩
    · rw [e, if_pos rfl, if_pos rfl]
    · have hk4 : k < 4 := by have := hT.ns.2; omega
      rw [e, if_neg (nI_m9 hk4), if_neg (nI_m9 hk4), nI_clamp (show k < 2 ^ 31 by omega), h.like (by omega) hk4, h.pages (by omega) hk4, h.2 k day hk4]
theorem Al.any (h : Al T T2 b b2) {day : Int32} : ∀ n, n ≤ 4 → mm_any T2 b2 day n = mm_any T b day n
  | 0, _ => rfl
  | k + 1, hk => by rw [mm_any, mm_any, h.any k (by omega), h.2 k day (by omega)]
theorem Al.wear (h : Al T T2 b b2) {U : Nat → Int32} {all : Int32} : mm_wear T2 U all = mm_wear T U all := by
  unfold mm_wear
  rw [h.1 40 (by omega) (by omega)]
theorem Al.day (h : Al T T2 b b2) (hT : okT T) {U S : Nat → Int32} : mm_day T2 b2 U S = mm_day T b U S := by
  unfold mm_day
  rw [h.nc, h.ns, h.kids hT _ hT.nc.2, h.any _ hT.ns.2]
  simp only [h.wear]
theorem Al.days (h : Al T T2 b b2) (hT : okT T) {U S : Nat → Int32} : ∀ n, mm_days T2 b2 U S n = mm_days T b U S n
  | 0 => rfl
  | n + 1 => by rw [mm_days, mm_days, h.days hT n, h.day hT]
theorem beg_cong {S : Nat → Int32} (h : ∀ c, c < 8 → T2 (3 * c) = T (3 * c)) : ∀ n, n ≤ 8 → mm_beg T2 S n = mm_beg T S n
  | 0, _ => rfl
  | n + 1, hn => by rw [mm_beg, mm_beg, beg_cong h n (by omega), h n (by omega)]
theorem Al.begin (h : Al T T2 b b2) {S : Nat → Int32} : mm_begin T2 S = mm_begin T S := by
  unfold mm_begin
  exact beg_cong (fun c hc => h.1 (3 * c) (by omega) (by omega)) 8 (Nat.le_refl 8)
end AL
/-- the sheet with nothing paid -/
def bareT (T : Nat → Int32) : Nat → Int32 := fun j => if j = 26 ∨ j = 29 ∨ j = 32 ∨ j = 35 then 0 else T j
theorem bare_ne (T : Nat → Int32) {j : Nat} (h : ¬ (j = 26 ∨ j = 29 ∨ j = 32 ∨ j = 35)) : bareT T j = T j := by
  unfold bareT
  rw [if_neg h]
theorem bare_pay (T : Nat → Int32) {k : Nat} (h : k < 4) : bareT T (24 + 3 * k + 2) = 0 := by
  unfold bareT
  rw [if_pos (by omega)]
theorem given_zero {T : Nat → Int32} {k : Nat} {day b : Int32} (h : T (24 + 3 * k + 2) = 0) : mm_given T b k day = 0 := by
  unfold mm_given
  simp only [h, Int32.zero_mul, Int32.zero_div, ite_self]
theorem given_bare {T : Nat → Int32} {k : Nat} {day : Int32} : mm_given T 1 k day = 0 := by
  unfold mm_given
  rw [if_neg (by decide)]
theorem bare_al (T : Nat → Int32) : Al (bareT T) T 0 1 := ⟨fun j _ h => (bare_ne T (by omega)).symm, fun k day hk => by rw [given_bare, given_zero (bare_pay T hk)]⟩
theorem bare_ok {T : Nat → Int32} (h : okT T) : okT (bareT T) := by
  have e1 : mm_nc (bareT T) = mm_nc T := by unfold mm_nc; rw [bare_ne T (by omega)]
  have e2 : mm_ns (bareT T) = mm_ns T := by unfold mm_ns; rw [bare_ne T (by omega)]
  unfold okT
  have h1 := h.nc.2
  have h2 := h.ns.2
  rw [e1, e2, bare_ne T (j := 40) (by omega), bare_ne T (j := 41) (by omega), bare_ne T (j := 36) (by omega), bare_ne T (j := 37) (by omega), bare_ne T (j := 38) (by omega), bare_ne T (j := 39) (by omega)]
  obtain ⟨a1, a2, a3, a4, a5, a6, a7, a8⟩ := h
  refine ⟨a1, a2, a3, a4, a5, a6, fun c hc => ?_, fun k hk => ?_⟩
  · rw [bare_ne T (j := 3 * c) (by omega), bare_ne T (j := 3 * c + 1) (by omega), bare_ne T (j := 3 * c + 2) (by omega)]
    exact a7 c hc
  · rw [bare_ne T (j := 24 + 3 * k) (by omega), bare_ne T (j := 24 + 3 * k + 1) (by omega), bare_pay T (by omega)]
    exact ⟨(a8 k hk).1, (a8 k hk).2.1, ⟨0, by omega, by omega, nI_0.symm⟩⟩
