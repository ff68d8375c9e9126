/-! the text grows -/
section CALLS4
variable {x m : SQ}
theorem byte_bv (b : BitVec 64) : ∀ k : Nat, k < 8 → ((b >>> (8 * k)) &&& 255#64) = ((b.sshiftRight (8 * k)) &&& 255#64) := by
  intro k hk
  apply BitVec.eq_of_getLsbD_eq
  intro i hi
  rw [BitVec.getLsbD_and, BitVec.getLsbD_and]
  by_cases h8 : i < 8
  · have e : (b >>> (8 * k)).getLsbD i = (b.sshiftRight (8 * k)).getLsbD i := by
      rw [BitVec.getLsbD_ushiftRight, BitVec.getLsbD_sshiftRight]
      rw [if_pos (by omega)]
      have : ¬ 64 ≤ i := by omega
      simp only [this, decide_false, Bool.not_false, Bool.true_and]
    rw [e]
  · have e : (255#64).getLsbD i = false := by
      have e : ∀ i : Fin 64, ¬ i.val < 8 → (255#64).getLsbD i.val = false := by decide
      exact e ⟨i, hi⟩ h8
    rw [e, Bool.and_false, Bool.and_false]
theorem byte_s1 (a : BitVec 64) : BitVec.signExtend 32 (a &&& 255#64) = a.signExtend 32 &&& 255#32 := by
  apply BitVec.eq_of_getLsbD_eq
  intro i hi
  have e : ∀ i : Fin 32, (255#32).getLsbD i.val = (255#64).getLsbD i.val := by decide +kernel
  have e := e ⟨i, hi⟩
  simp only at e
  have hi2 : i < 64 := by omega
  rw [BitVec.getLsbD_signExtend, BitVec.getLsbD_and, BitVec.getLsbD_and, BitVec.getLsbD_signExtend, if_pos hi2, if_pos hi2, e, decide_eq_true hi, Bool.true_and, Bool.true_and]
theorem byte_sx (a b : BitVec 64) (h : a &&& 255#64 = b &&& 255#64) : (a.signExtend 32 &&& 255#32) = BitVec.signExtend 32 (b &&& 255#64) := 
  (byte_s1 a).symm.trans (congrArg (BitVec.signExtend 32) h)
theorem byte_k (v : Int64) {k : Nat} (hk : k < 8) (s1 : UInt64) (s2 : Int64) (a1 : (s1.toBitVec % 64#64).toNat = 8 * k) (a2 : (s2.toBitVec.smod 64#64).toNat = 8 * k) : (((v.toUInt64 >>> s1).toInt64).toInt32) &&& (255 : Int32) = ((v >>> s2) &&& (255 : Int64)).toInt32 := by
  apply Int32.toBitVec_inj.mp
  rw [Int32.toBitVec_and, Int64.toBitVec_toInt32, UInt64.toBitVec_toInt64, UInt64.toBitVec_shiftRight, Int64.toBitVec_toInt32, Int64.toBitVec_and, Int64.toBitVec_shiftRight]
  have h1 : v.toUInt64.toBitVec >>> (s1.toBitVec % 64#64) = v.toBitVec >>> (8 * k) := congrArg (fun n : Nat => v.toBitVec >>> n) a1
  have h2 : v.toBitVec.sshiftRight' (s2.toBitVec.smod 64#64) = v.toBitVec.sshiftRight (8 * k) := congrArg (fun n : Nat => v.toBitVec.sshiftRight n) a2
  generalize v.toUInt64.toBitVec >>> (s1.toBitVec % 64) = p at h1 ⊢
  generalize v.toBitVec.sshiftRight' (s2.toBitVec.smod 64) = q at h2 ⊢
  exact byte_sx _ _ (by rw [h1, h2]; exact byte_bv _ k hk)
theorem byte_eq (v : Int64) {k : Nat} (hk : k < 8) : (((v.toUInt64 >>> (((8 : Int32) * nI k).toInt64.toUInt64 &&& Int64.toUInt64 63)).toInt64).toInt32) &&& (255 : Int32) = ((v >>> (((8 : Int32) * nI k).toInt64 &&& 63)) &&& (255 : Int64)).toInt32 := by
  rcases (show k = 0 ∨ k = 1 ∨ k = 2 ∨ k = 3 ∨ k = 4 ∨ k = 5 ∨ k = 6 ∨ k = 7 by omega) with rfl | rfl | rfl | rfl | rfl | rfl | rfl | rfl
  all_goals exact byte_k v hk _ _ (by decide +kernel) (by decide +kernel)
theorem byte_in (y : Int32) : inN (y &&& 255) 0 255 := by
  refine ⟨(y &&& 255).toBitVec.toNat, by omega, ?_, ?_⟩
  · have : (y &&& 255).toBitVec = y.toBitVec &&& 255#32 := rfl
    rw [this, BitVec.toNat_and]
    exact Nat.and_le_right
  · apply Int32.toBitVec_inj.mp
    exact (((BitVec.ofNat_toNat 32 _).trans (BitVec.setWidth_eq _)).symm)
theorem RR.hear (h : RR x m) {n : Nat} (hn : n < 400) (e : m.1 0 3 = nI n) {b : Int32} (hb : inN b 0 255) : RR (sI (sI x 9 n b) 8 0 (nI (n + 1))) (sI (sI m 1 n b) 0 3 (nI (n + 1))) := by
  obtain ⟨⟨t1, t2⟩, u, ⟨n1, n2⟩, ⟨w, k1, k2, k3, k4⟩, ⟨n', x1, x2, x3, x4⟩, ⟨i1, i2⟩, l, a, bb⟩ := h
  have en : n' = n := (nI_eq (by omega) (by omega)).mp (x2.symm.trans e)
  subst en
  have E : ∀ o, o ≠ 8 → o ≠ 9 → (sI (sI x 9 n' b) 8 0 (nI (n' + 1))).1 o = x.1 o := fun o ho h9 => by rw [sx_row_ne _ _ _ ho, sx_row_ne _ _ _ h9]
  have F : ∀ o, o ≠ 0 → o ≠ 1 → (sI (sI m 1 n' b) 0 3 (nI (n' + 1))).1 o = m.1 o := fun o ho h9 => by rw [sx_row_ne _ _ _ ho, sx_row_ne _ _ _ h9]
  have F0 : ∀ i, i ≠ 3 → (sI (sI m 1 n' b) 0 3 (nI (n' + 1))).1 0 i = m.1 0 i := fun i hi => by rw [sx_row, upd_ne _ _ hi, sx_row_ne _ _ _ (by omega)]
  unfold RR RT RU RN RK RX RI RI1
  rw [F 2 (by omega) (by omega), F 3 (by omega) (by omega), F 4 (by omega) (by omega), F 5 (by omega) (by omega), F 6 (by omega) (by omega), F 9 (by omega) (by omega), F 10 (by omega) (by omega), sI_two, sI_two, sI_two, sI_two]
  refine ⟨⟨t1, t2.cong (fun o h1 h2 => E o (by omega) (by omega))⟩, fun i hi => by rw [E 23 (by omega) (by omega)]; exact u i hi, ⟨n1.cong (fun o h1 h2 => E o (by omega) (by omega)), n2⟩, ⟨w, k1, by rw [F0 19 (by omega)]; exact k2, by rw [E 34 (by omega) (by omega)]; exact k3, fun i hi => by rw [E 35 (by omega) (by omega), E 36 (by omega) (by omega)]; exact k4 i hi⟩, ⟨n' + 1, by omega, by rw [sx_row, upd_eq], by rw [sx_row, upd_eq], fun i hi => ?_⟩, ⟨?_, ?_⟩, by rw [E 0 (by omega) (by omega)]; exact l, a, by rw [F0 16 (by omega)]; exact bb⟩
  · rw [sx_row_ne _ _ _ (show 9 ≠ 8 by omega), sx_row_ne _ _ _ (show 1 ≠ 0 by omega), sx_row, sx_row]
    by_cases q : i = n'
    · subst q
      rw [upd_eq, upd_eq]
      exact ⟨rfl, hb⟩
    · rw [upd_ne _ _ q, upd_ne _ _ q]
      exact x4 i (by omega)
  · rw [E 24 (by omega) (by omega)]
    exact ⟨i1.1, i1.2.1, fun hj => ⟨(i1.2.2 hj).1, (i1.2.2 hj).2.1.cong (fun o h1 h2 => E o (by omega) (by omega)), (i1.2.2 hj).2.2⟩⟩
  · rw [E 29 (by omega) (by omega)]
    exact ⟨i2.1, i2.2.1, fun hj => ⟨(i2.2.2 hj).1, (i2.2.2 hj).2.1.cong (fun o h1 h2 => E o (by omega) (by omega)), (i2.2.2 hj).2.2⟩⟩
theorem px_dn (a : Nat) : (nI (a + 1) - 1 : Int32) = nI a := nI_pred a
theorem px_mm (a : Int32) : a + (-1 : Int32) = a - 1 := by
  rw [Int32.sub_eq_add_neg]
theorem hear_loop (h : RR x m) (v : Int64) {n i : Nat} (e : m.1 0 3 = nI n) (hi : 1 ≤ i ∧ i ≤ 8) (hf : n + i ≤ 400) : Ev2 (F3_hear_19 v (nI i - 1) x) (F7_type_37 v (nI i - 1) m) (fun r t => r.1 = 1 ∧ t.1 = t.2.1 0 3 ∧ RR r.2 t.2) := by
  unfold F3_hear_19 F7_type_37
  refine Ev2.loop (fun k s t => ∃ y n2, s = (nI (i - k) - 1, y) ∧ t = (nI (i - k) - 1, n2) ∧ RR y n2 ∧ n2.1 0 3 = nI (n + k)) i (fun k s t hk hI => ?_) (fun s t hI => ?_) ⟨x, m, rfl, rfl, h, e⟩ (FU_gt (by omega))
  · obtain ⟨y, n2, rfl, rfl, hR, hc⟩ := hI
    obtain ⟨j, hj⟩ : ∃ j, i - k = j + 1 := ⟨i - k - 1, by omega⟩
    have hj2 : i - (k + 1) = j := by omega
    have hx : y.1 8 0 = nI (n + k) := by
      obtain ⟨q, q1, q2, q3, -⟩ := hR.2.2.2.2.1
      rw [q3, ← q2, hc]
    have hr := hR.hear (b := ((v >>> (((8 : Int32) * nI j).toInt64 &&& 63)) &&& (255 : Int64)).toInt32) (show n + k < 400 by omega) hc (by rw [← byte_eq v (show j < 8 by omega)]; exact byte_in _)
    simp (disch := omega) only [hj, hj2, px_dn, F3_hear_19b, F7_type_37b, if_neg (nI_pos (show j < 2 ^ 31 by omega)), gI_def, hx, hc, byte_eq, sx_row_ne, px_mm, Int32.add_zero, px_m3, px_a3, px_a24, px_a36, px_a42, px_m27, px_p1, px_p2, px_p3, nI_add, nI_clamp, sx_ixN, if_true, Bool.false_eq_true, if_false, sx_let, Option.bind_some, Option.map_some]
    exact Ev2.ret ⟨_, _, rfl, rfl, _, _, rfl, rfl, hr, by rw [sx_row, upd_eq]; rfl⟩
  · obtain ⟨y, n2, rfl, rfl, hR, hc⟩ := hI
    have hneg : (nI (i - i) - 1 : Int32) < 0 := by rw [Nat.sub_self]; decide
    simp only [F3_hear_19b, F7_type_37b, if_pos hneg, gI_def]
    exact Ev2.ret ⟨_, _, rfl, rfl, rfl, rfl, hR⟩
theorem type_bo (h : RR x m) (v : Int64) (w : Int32) : Bo (F6_type v w x) (F7_type v w m) := by
  unfold F7_type
  simp only [sx_let, Option.bind_some, Option.map_some]
  have h := h.t0
  generalize sI m 0 0 0 = m at h ⊢
  obtain ⟨n, n1, n2, n3, -⟩ := h.2.2.2.2.1
  unfold F6_type F3_hear
  simp only [Xin, Min, sx_let, Option.bind_some, Option.map_some, gI_def, n2, n3]
  rcases wi_lit w (a := 1) (b := 8) (by omega) (by omega) 1 8 rfl rfl with ⟨i, i1, i2, rfl, e⟩ | ⟨e, -⟩
  · rw [e]
    simp only [show ¬ ((1 : Int32) = 0) from by decide, if_false, nI_add]
    by_cases hf : n + i ≤ 400
    · have c : nI (n + i) ≤ (400 : Int32) := by rw [px_l400]; exact nI_le hf (by omega)
      obtain ⟨⟨r, y⟩, ⟨t, n2⟩, e1, e2, p1, p2, p3⟩ := hear_loop h v n2 ⟨i1, i2⟩ hf
      simp only [if_pos c, e1, e2, sx_let, Option.bind_some, Option.map_some]
      simp only at p1 p2 p3
      rw [p1, p2, if_neg (show ¬ ((1 : Int32) = 0) from by decide)]
      obtain ⟨q, q1, q2, q3, -⟩ := p3.2.2.2.2.1
      exact Bo.ret2 (q3.trans q2.symm) p3
    · have c : ¬ nI (n + i) ≤ (400 : Int32) := by rw [px_l400]; exact nI_ge (by omega) (by omega)
      simp only [if_neg c, sx_let, Option.bind_some, Option.map_some, if_true]
      exact Bo.ret h
  · rw [e]
    exact Bo.ret h
end CALLS4
