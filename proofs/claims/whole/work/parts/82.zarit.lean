theorem and15 (x : Int32) : ∃ k, k < 16 ∧ x &&& nI 15 = nI k := by
  refine ⟨(x &&& nI 15).toBitVec.toNat, ?_, ?_⟩
  · rw [Int32.toBitVec_and, BitVec.toNat_and]
    exact Nat.lt_of_le_of_lt Nat.and_le_right (by decide)
  · unfold nI
    apply Int32.toBitVec_inj.mp
    apply BitVec.eq_of_toNat_eq
    simp
theorem law_le {Ln i : Nat} (hL : Ln ≤ 2048) (hi : i < 2 ^ 30) : (nI Ln - nI 4 < nI i) ↔ Ln < i + 4 := by
  by_cases h4 : 4 ≤ Ln
  · obtain ⟨n, rfl⟩ : ∃ n, Ln = n + 4 := ⟨Ln - 4, by omega⟩
    have e : nI (n + 4) - nI 4 = nI n := by
      rw [← nI_add]
      exact Int32.add_sub_cancel _ _
    rw [e, nI_ltI (by omega) (by omega)]
    omega
  · have h : nI Ln - nI 4 < nI 0 := by
      match Ln, h4 with
      | 0, _ => decide
      | 1, _ => decide
      | 2, _ => decide
      | 3, _ => decide
      | n + 4, h => omega
    have h2 : nI 0 ≤ nI i := (nI_leI (by omega) (by omega)).mpr (Nat.zero_le _)
    exact ⟨fun _ => by omega, fun _ => Int32.lt_of_lt_of_le h h2⟩
