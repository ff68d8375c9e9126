/-! the text grows -/
section CALLS4
variable {x m : SQ}
theorem byte_bv (b : BitVec 64) : ∀ k : Nat, k < 8 → ((b >>> (8 * k)) &&& 255#64) = ((b.sshiftRight (8 * k)) &&& 255#64) := by
  intro k hk
  apply BitVec.eq_of_getLsbD_eq
  intro i hi
  rw [BitVec.getLsbD_and, BitVec.getLsbD_and]
  by_cases h8 : i < 8
  · have e : (b >>> (8 * k)).getLsbD i = (b.sshiftRight (8 * k)).getLsbD i := by
      rw [BitVec.getLsbD_ushiftRight, BitVec.getLsbD_sshiftRight]
      rw [if_pos (by omega)]
      have : ¬ 64 ≤ i := by omega
      simp only [this, decide_false, Bool.not_false, Bool.true_and]
    rw [e]
  · have e : (255#64).getLsbD i = false := by
      have e : ∀ i : Fin 64, ¬ i.val < 8 → (255#64).getLsbD i.val = false := by decide
      exact e ⟨i, hi⟩ h8
    rw [e, Bool.and_false, Bool.and_false]
end CALLS4
